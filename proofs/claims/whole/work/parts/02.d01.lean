theorem dX0_init_0 : decode cX0_init 0 = .ok (.aload_n 0, 1) := by decide +kernel
theorem dX0_init_1 : decode cX0_init 1 = .ok (.invokespecial 3, 3) := by decide +kernel
theorem dX0_init_4 : decode cX0_init 4 = .ok (.aload_n 0, 1) := by decide +kernel
theorem dX0_init_5 : decode cX0_init 5 = .ok (.iconst 0, 1) := by decide +kernel
theorem dX0_init_6 : decode cX0_init 6 = .ok (.putfield 9, 3) := by decide +kernel
theorem dX0_init_9 : decode cX0_init 9 = .ok (.aload_n 0, 1) := by decide +kernel
theorem dX0_init_10 : decode cX0_init 10 = .ok (.iconst (-1), 1) := by decide +kernel
theorem dX0_init_11 : decode cX0_init 11 = .ok (.putfield 15, 3) := by decide +kernel
theorem dX0_init_14 : decode cX0_init 14 = .ok (.aload_n 0, 1) := by decide +kernel
theorem dX0_init_15 : decode cX0_init 15 = .ok (.iconst (-1), 1) := by decide +kernel
theorem dX0_init_16 : decode cX0_init 16 = .ok (.putfield 18, 3) := by decide +kernel
theorem dX0_init_19 : decode cX0_init 19 = .ok (.aload_n 0, 1) := by decide +kernel
theorem dX0_init_20 : decode cX0_init 20 = .ok (.iconst (-1), 1) := by decide +kernel
theorem dX0_init_21 : decode cX0_init 21 = .ok (.putfield 21, 3) := by decide +kernel
theorem dX0_init_24 : decode cX0_init 24 = .ok (.aload_n 0, 1) := by decide +kernel
theorem dX0_init_25 : decode cX0_init 25 = .ok (.iconst 0, 1) := by decide +kernel
theorem dX0_init_26 : decode cX0_init 26 = .ok (.putfield 24, 3) := by decide +kernel
theorem dX0_init_29 : decode cX0_init 29 = .ok (.aload_n 0, 1) := by decide +kernel
theorem dX0_init_30 : decode cX0_init 30 = .ok (.bipush 20, 2) := by decide +kernel
theorem dX0_init_32 : decode cX0_init 32 = .ok (.newarray .int, 2) := by decide +kernel
theorem dX0_init_34 : decode cX0_init 34 = .ok (.putfield 27, 3) := by decide +kernel
theorem dX0_init_37 : decode cX0_init 37 = .ok (.aload_n 0, 1) := by decide +kernel
theorem dX0_init_38 : decode cX0_init 38 = .ok (.bipush 20, 2) := by decide +kernel
theorem dX0_init_40 : decode cX0_init 40 = .ok (.newarray .int, 2) := by decide +kernel
theorem dX0_init_42 : decode cX0_init 42 = .ok (.putfield 31, 3) := by decide +kernel
theorem dX0_init_45 : decode cX0_init 45 = .ok (.aload_n 0, 1) := by decide +kernel
theorem dX0_init_46 : decode cX0_init 46 = .ok (.bipush 20, 2) := by decide +kernel
theorem dX0_init_48 : decode cX0_init 48 = .ok (.newarray .int, 2) := by decide +kernel
theorem dX0_init_50 : decode cX0_init 50 = .ok (.putfield 34, 3) := by decide +kernel
theorem dX0_init_53 : decode cX0_init 53 = .ok (.aload_n 0, 1) := by decide +kernel
theorem dX0_init_54 : decode cX0_init 54 = .ok (.bipush 31, 2) := by decide +kernel
theorem dX0_init_56 : decode cX0_init 56 = .ok (.newarray .int, 2) := by decide +kernel
theorem dX0_init_58 : decode cX0_init 58 = .ok (.putfield 37, 3) := by decide +kernel
theorem dX0_init_61 : decode cX0_init 61 = .ok (.aload_n 0, 1) := by decide +kernel
theorem dX0_init_62 : decode cX0_init 62 = .ok (.bipush 31, 2) := by decide +kernel
theorem dX0_init_64 : decode cX0_init 64 = .ok (.newarray .int, 2) := by decide +kernel
theorem dX0_init_66 : decode cX0_init 66 = .ok (.putfield 40, 3) := by decide +kernel
theorem dX0_init_69 : decode cX0_init 69 = .ok (.aload_n 0, 1) := by decide +kernel
theorem dX0_init_70 : decode cX0_init 70 = .ok (.sipush 201, 3) := by decide +kernel
theorem dX0_init_73 : decode cX0_init 73 = .ok (.newarray .int, 2) := by decide +kernel
theorem dX0_init_75 : decode cX0_init 75 = .ok (.putfield 43, 3) := by decide +kernel
theorem dX0_init_78 : decode cX0_init 78 = .ok (.aload_n 0, 1) := by decide +kernel
theorem dX0_init_79 : decode cX0_init 79 = .ok (.sipush 201, 3) := by decide +kernel
theorem dX0_init_82 : decode cX0_init 82 = .ok (.newarray .int, 2) := by decide +kernel
theorem dX0_init_84 : decode cX0_init 84 = .ok (.putfield 46, 3) := by decide +kernel
theorem dX0_init_87 : decode cX0_init 87 = .ok (.aload_n 0, 1) := by decide +kernel
theorem dX0_init_88 : decode cX0_init 88 = .ok (.sipush 201, 3) := by decide +kernel
theorem dX0_init_91 : decode cX0_init 91 = .ok (.newarray .int, 2) := by decide +kernel
theorem dX0_init_93 : decode cX0_init 93 = .ok (.putfield 49, 3) := by decide +kernel
theorem dX0_init_96 : decode cX0_init 96 = .ok (.aload_n 0, 1) := by decide +kernel
theorem dX0_init_97 : decode cX0_init 97 = .ok (.sipush 1024, 3) := by decide +kernel
theorem dX0_init_100 : decode cX0_init 100 = .ok (.newarray .int, 2) := by decide +kernel
theorem dX0_init_102 : decode cX0_init 102 = .ok (.putfield 52, 3) := by decide +kernel
theorem dX0_init_105 : decode cX0_init 105 = .ok (.aload_n 0, 1) := by decide +kernel
theorem dX0_init_106 : decode cX0_init 106 = .ok (.iconst 1, 1) := by decide +kernel
theorem dX0_init_107 : decode cX0_init 107 = .ok (.putfield 55, 3) := by decide +kernel
theorem dX0_init_110 : decode cX0_init 110 = .ok (.aload_n 0, 1) := by decide +kernel
theorem dX0_init_111 : decode cX0_init 111 = .ok (.sipush 200, 3) := by decide +kernel
theorem dX0_init_114 : decode cX0_init 114 = .ok (.putfield 58, 3) := by decide +kernel
theorem dX0_init_117 : decode cX0_init 117 = .ok (.return_, 1) := by decide +kernel
theorem dX0_load_0 : decode cX0_load 0 = .ok (.aload_n 1, 1) := by decide +kernel
theorem dX0_load_1 : decode cX0_load 1 = .ok (.getfield 61, 3) := by decide +kernel
theorem dX0_load_4 : decode cX0_load 4 = .ok (.iconst 3, 1) := by decide +kernel
theorem dX0_load_5 : decode cX0_load 5 = .ok (.irem, 1) := by decide +kernel
theorem dX0_load_6 : decode cX0_load 6 = .ok (.ifCond .ne 42, 3) := by decide +kernel
theorem dX0_load_9 : decode cX0_load 9 = .ok (.aload_n 1, 1) := by decide +kernel
theorem dX0_load_10 : decode cX0_load 10 = .ok (.iconst 0, 1) := by decide +kernel
theorem dX0_load_11 : decode cX0_load 11 = .ok (.iconst 3, 1) := by decide +kernel
theorem dX0_load_12 : decode cX0_load 12 = .ok (.lconst 1, 1) := by decide +kernel
theorem dX0_load_13 : decode cX0_load 13 = .ok (.ldc2_w 64, 3) := by decide +kernel
theorem dX0_load_16 : decode cX0_load 16 = .ok (.invokevirtual 66, 3) := by decide +kernel
theorem dX0_load_19 : decode cX0_load 19 = .ok (.ifCond .ne 29, 3) := by decide +kernel
theorem dX0_load_22 : decode cX0_load 22 = .ok (.aload_n 1, 1) := by decide +kernel
theorem dX0_load_23 : decode cX0_load 23 = .ok (.iconst 1, 1) := by decide +kernel
theorem dX0_load_24 : decode cX0_load 24 = .ok (.iconst 3, 1) := by decide +kernel
theorem dX0_load_25 : decode cX0_load 25 = .ok (.ldc2_w 70, 3) := by decide +kernel
theorem dX0_load_28 : decode cX0_load 28 = .ok (.lconst 1, 1) := by decide +kernel
theorem dX0_load_29 : decode cX0_load 29 = .ok (.invokevirtual 66, 3) := by decide +kernel
theorem dX0_load_32 : decode cX0_load 32 = .ok (.ifCond .ne 16, 3) := by decide +kernel
theorem dX0_load_35 : decode cX0_load 35 = .ok (.aload_n 1, 1) := by decide +kernel
theorem dX0_load_36 : decode cX0_load 36 = .ok (.iconst 2, 1) := by decide +kernel
theorem dX0_load_37 : decode cX0_load 37 = .ok (.iconst 3, 1) := by decide +kernel
theorem dX0_load_38 : decode cX0_load 38 = .ok (.lconst 0, 1) := by decide +kernel
theorem dX0_load_39 : decode cX0_load 39 = .ok (.ldc2_w 72, 3) := by decide +kernel
theorem dX0_load_42 : decode cX0_load 42 = .ok (.invokevirtual 66, 3) := by decide +kernel
theorem dX0_load_45 : decode cX0_load 45 = .ok (.ifCond .eq 5, 3) := by decide +kernel
theorem dX0_load_48 : decode cX0_load 48 = .ok (.iconst 0, 1) := by decide +kernel
theorem dX0_load_49 : decode cX0_load 49 = .ok (.ireturn, 1) := by decide +kernel
theorem dX0_load_50 : decode cX0_load 50 = .ok (.aload_n 0, 1) := by decide +kernel
theorem dX0_load_51 : decode cX0_load 51 = .ok (.aload_n 1, 1) := by decide +kernel
theorem dX0_load_52 : decode cX0_load 52 = .ok (.getfield 61, 3) := by decide +kernel
theorem dX0_load_55 : decode cX0_load 55 = .ok (.iconst 3, 1) := by decide +kernel
theorem dX0_load_56 : decode cX0_load 56 = .ok (.idiv, 1) := by decide +kernel
theorem dX0_load_57 : decode cX0_load 57 = .ok (.putfield 9, 3) := by decide +kernel
theorem dX0_load_60 : decode cX0_load 60 = .ok (.iconst 0, 1) := by decide +kernel
theorem dX0_load_61 : decode cX0_load 61 = .ok (.istore_n 2, 1) := by decide +kernel
theorem dX0_load_62 : decode cX0_load 62 = .ok (.iload_n 2, 1) := by decide +kernel
theorem dX0_load_63 : decode cX0_load 63 = .ok (.aload_n 0, 1) := by decide +kernel
theorem dX0_load_64 : decode cX0_load 64 = .ok (.getfield 9, 3) := by decide +kernel
theorem dX0_load_67 : decode cX0_load 67 = .ok (.if_icmp .ge 69, 3) := by decide +kernel
theorem dX0_load_70 : decode cX0_load 70 = .ok (.aload_n 0, 1) := by decide +kernel
theorem dX0_load_71 : decode cX0_load 71 = .ok (.getfield 27, 3) := by decide +kernel
theorem dX0_load_74 : decode cX0_load 74 = .ok (.iload_n 2, 1) := by decide +kernel
theorem dX0_load_75 : decode cX0_load 75 = .ok (.aload_n 1, 1) := by decide +kernel
theorem dX0_load_76 : decode cX0_load 76 = .ok (.getfield 74, 3) := by decide +kernel
theorem dX0_load_79 : decode cX0_load 79 = .ok (.iconst 3, 1) := by decide +kernel
theorem dX0_load_80 : decode cX0_load 80 = .ok (.iload_n 2, 1) := by decide +kernel
theorem dX0_load_81 : decode cX0_load 81 = .ok (.imul, 1) := by decide +kernel
theorem dX0_load_82 : decode cX0_load 82 = .ok (.laload, 1) := by decide +kernel
theorem dX0_load_83 : decode cX0_load 83 = .ok (.l2i, 1) := by decide +kernel
theorem dX0_load_84 : decode cX0_load 84 = .ok (.iastore, 1) := by decide +kernel
theorem dX0_load_85 : decode cX0_load 85 = .ok (.aload_n 0, 1) := by decide +kernel
theorem dX0_load_86 : decode cX0_load 86 = .ok (.getfield 31, 3) := by decide +kernel
theorem dX0_load_89 : decode cX0_load 89 = .ok (.iload_n 2, 1) := by decide +kernel
theorem dX0_load_90 : decode cX0_load 90 = .ok (.aload_n 1, 1) := by decide +kernel
theorem dX0_load_91 : decode cX0_load 91 = .ok (.getfield 74, 3) := by decide +kernel
theorem dX0_load_94 : decode cX0_load 94 = .ok (.iconst 3, 1) := by decide +kernel
theorem dX0_load_95 : decode cX0_load 95 = .ok (.iload_n 2, 1) := by decide +kernel
theorem dX0_load_96 : decode cX0_load 96 = .ok (.imul, 1) := by decide +kernel
theorem dX0_load_97 : decode cX0_load 97 = .ok (.iconst 1, 1) := by decide +kernel
theorem dX0_load_98 : decode cX0_load 98 = .ok (.iadd, 1) := by decide +kernel
theorem dX0_load_99 : decode cX0_load 99 = .ok (.laload, 1) := by decide +kernel
theorem dX0_load_100 : decode cX0_load 100 = .ok (.l2i, 1) := by decide +kernel
theorem dX0_load_101 : decode cX0_load 101 = .ok (.iastore, 1) := by decide +kernel
theorem dX0_load_102 : decode cX0_load 102 = .ok (.aload_n 0, 1) := by decide +kernel
theorem dX0_load_103 : decode cX0_load 103 = .ok (.getfield 34, 3) := by decide +kernel
theorem dX0_load_106 : decode cX0_load 106 = .ok (.iload_n 2, 1) := by decide +kernel
theorem dX0_load_107 : decode cX0_load 107 = .ok (.aload_n 1, 1) := by decide +kernel
theorem dX0_load_108 : decode cX0_load 108 = .ok (.getfield 74, 3) := by decide +kernel
theorem dX0_load_111 : decode cX0_load 111 = .ok (.iconst 3, 1) := by decide +kernel
theorem dX0_load_112 : decode cX0_load 112 = .ok (.iload_n 2, 1) := by decide +kernel
theorem dX0_load_113 : decode cX0_load 113 = .ok (.imul, 1) := by decide +kernel
theorem dX0_load_114 : decode cX0_load 114 = .ok (.iconst 2, 1) := by decide +kernel
theorem dX0_load_115 : decode cX0_load 115 = .ok (.iadd, 1) := by decide +kernel
theorem dX0_load_116 : decode cX0_load 116 = .ok (.laload, 1) := by decide +kernel
theorem dX0_load_117 : decode cX0_load 117 = .ok (.l2i, 1) := by decide +kernel
theorem dX0_load_118 : decode cX0_load 118 = .ok (.iastore, 1) := by decide +kernel
theorem dX0_load_119 : decode cX0_load 119 = .ok (.aload_n 0, 1) := by decide +kernel
theorem dX0_load_120 : decode cX0_load 120 = .ok (.getfield 31, 3) := by decide +kernel
theorem dX0_load_123 : decode cX0_load 123 = .ok (.iload_n 2, 1) := by decide +kernel
theorem dX0_load_124 : decode cX0_load 124 = .ok (.iaload, 1) := by decide +kernel
theorem dX0_load_125 : decode cX0_load 125 = .ok (.ifCond .ne 5, 3) := by decide +kernel
theorem dX0_load_128 : decode cX0_load 128 = .ok (.iconst 0, 1) := by decide +kernel
theorem dX0_load_129 : decode cX0_load 129 = .ok (.ireturn, 1) := by decide +kernel
theorem dX0_load_130 : decode cX0_load 130 = .ok (.iinc 2 1, 3) := by decide +kernel
theorem dX0_load_133 : decode cX0_load 133 = .ok (.goto (-71), 3) := by decide +kernel
theorem dX0_load_136 : decode cX0_load 136 = .ok (.aload_n 0, 1) := by decide +kernel
theorem dX0_load_137 : decode cX0_load 137 = .ok (.invokevirtual 78, 3) := by decide +kernel
theorem dX0_load_140 : decode cX0_load 140 = .ok (.iconst 1, 1) := by decide +kernel
theorem dX0_load_141 : decode cX0_load 141 = .ok (.ireturn, 1) := by decide +kernel
theorem dX0_findEnds_0 : decode cX0_findEnds 0 = .ok (.iconst 0, 1) := by decide +kernel
theorem dX0_findEnds_1 : decode cX0_findEnds 1 = .ok (.istore_n 1, 1) := by decide +kernel
theorem dX0_findEnds_2 : decode cX0_findEnds 2 = .ok (.iload_n 1, 1) := by decide +kernel
theorem dX0_findEnds_3 : decode cX0_findEnds 3 = .ok (.bipush 30, 2) := by decide +kernel
theorem dX0_findEnds_5 : decode cX0_findEnds 5 = .ok (.if_icmp .gt 84, 3) := by decide +kernel
theorem dX0_findEnds_8 : decode cX0_findEnds 8 = .ok (.iconst 1, 1) := by decide +kernel
theorem dX0_findEnds_9 : decode cX0_findEnds 9 = .ok (.istore_n 2, 1) := by decide +kernel
theorem dX0_findEnds_10 : decode cX0_findEnds 10 = .ok (.sipush 200, 3) := by decide +kernel
theorem dX0_findEnds_13 : decode cX0_findEnds 13 = .ok (.istore_n 3, 1) := by decide +kernel
theorem dX0_findEnds_14 : decode cX0_findEnds 14 = .ok (.iconst 0, 1) := by decide +kernel
theorem dX0_findEnds_15 : decode cX0_findEnds 15 = .ok (.istore 4, 2) := by decide +kernel
theorem dX0_findEnds_17 : decode cX0_findEnds 17 = .ok (.iload 4, 2) := by decide +kernel
theorem dX0_findEnds_19 : decode cX0_findEnds 19 = .ok (.aload_n 0, 1) := by decide +kernel
theorem dX0_findEnds_20 : decode cX0_findEnds 20 = .ok (.getfield 9, 3) := by decide +kernel
theorem dX0_findEnds_23 : decode cX0_findEnds 23 = .ok (.if_icmp .ge 46, 3) := by decide +kernel
theorem dX0_findEnds_26 : decode cX0_findEnds 26 = .ok (.iload_n 2, 1) := by decide +kernel
theorem dX0_findEnds_27 : decode cX0_findEnds 27 = .ok (.iload_n 3, 1) := by decide +kernel
theorem dX0_findEnds_28 : decode cX0_findEnds 28 = .ok (.if_icmp .gt 41, 3) := by decide +kernel
theorem dX0_findEnds_31 : decode cX0_findEnds 31 = .ok (.aload_n 0, 1) := by decide +kernel
theorem dX0_findEnds_32 : decode cX0_findEnds 32 = .ok (.iload 4, 2) := by decide +kernel
theorem dX0_findEnds_34 : decode cX0_findEnds 34 = .ok (.aload_n 0, 1) := by decide +kernel
theorem dX0_findEnds_35 : decode cX0_findEnds 35 = .ok (.getfield 31, 3) := by decide +kernel
theorem dX0_findEnds_38 : decode cX0_findEnds 38 = .ok (.iload 4, 2) := by decide +kernel
theorem dX0_findEnds_40 : decode cX0_findEnds 40 = .ok (.iaload, 1) := by decide +kernel
theorem dX0_findEnds_41 : decode cX0_findEnds 41 = .ok (.iload_n 1, 1) := by decide +kernel
theorem dX0_findEnds_42 : decode cX0_findEnds 42 = .ok (.invokevirtual 81, 3) := by decide +kernel
theorem dX0_findEnds_45 : decode cX0_findEnds 45 = .ok (.iload_n 2, 1) := by decide +kernel
theorem dX0_findEnds_46 : decode cX0_findEnds 46 = .ok (.aload_n 0, 1) := by decide +kernel
theorem dX0_findEnds_47 : decode cX0_findEnds 47 = .ok (.getfield 55, 3) := by decide +kernel
theorem dX0_findEnds_50 : decode cX0_findEnds 50 = .ok (.invokestatic 85, 3) := by decide +kernel
theorem dX0_findEnds_53 : decode cX0_findEnds 53 = .ok (.istore_n 2, 1) := by decide +kernel
theorem dX0_findEnds_54 : decode cX0_findEnds 54 = .ok (.iload_n 3, 1) := by decide +kernel
theorem dX0_findEnds_55 : decode cX0_findEnds 55 = .ok (.aload_n 0, 1) := by decide +kernel
theorem dX0_findEnds_56 : decode cX0_findEnds 56 = .ok (.getfield 58, 3) := by decide +kernel
theorem dX0_findEnds_59 : decode cX0_findEnds 59 = .ok (.invokestatic 91, 3) := by decide +kernel
theorem dX0_findEnds_62 : decode cX0_findEnds 62 = .ok (.istore_n 3, 1) := by decide +kernel
theorem dX0_findEnds_63 : decode cX0_findEnds 63 = .ok (.iinc 4 1, 3) := by decide +kernel
theorem dX0_findEnds_66 : decode cX0_findEnds 66 = .ok (.goto (-49), 3) := by decide +kernel
theorem dX0_findEnds_69 : decode cX0_findEnds 69 = .ok (.aload_n 0, 1) := by decide +kernel
theorem dX0_findEnds_70 : decode cX0_findEnds 70 = .ok (.getfield 37, 3) := by decide +kernel
theorem dX0_findEnds_73 : decode cX0_findEnds 73 = .ok (.iload_n 1, 1) := by decide +kernel
theorem dX0_findEnds_74 : decode cX0_findEnds 74 = .ok (.iload_n 2, 1) := by decide +kernel
theorem dX0_findEnds_75 : decode cX0_findEnds 75 = .ok (.iastore, 1) := by decide +kernel
theorem dX0_findEnds_76 : decode cX0_findEnds 76 = .ok (.aload_n 0, 1) := by decide +kernel
theorem dX0_findEnds_77 : decode cX0_findEnds 77 = .ok (.getfield 40, 3) := by decide +kernel
theorem dX0_findEnds_80 : decode cX0_findEnds 80 = .ok (.iload_n 1, 1) := by decide +kernel
theorem dX0_findEnds_81 : decode cX0_findEnds 81 = .ok (.iload_n 3, 1) := by decide +kernel
theorem dX0_findEnds_82 : decode cX0_findEnds 82 = .ok (.iastore, 1) := by decide +kernel
theorem dX0_findEnds_83 : decode cX0_findEnds 83 = .ok (.iinc 1 1, 3) := by decide +kernel
theorem dX0_findEnds_86 : decode cX0_findEnds 86 = .ok (.goto (-84), 3) := by decide +kernel
theorem dX0_findEnds_89 : decode cX0_findEnds 89 = .ok (.return_, 1) := by decide +kernel
theorem dX0_findOne_0 : decode cX0_findOne 0 = .ok (.aload_n 0, 1) := by decide +kernel
theorem dX0_findOne_1 : decode cX0_findOne 1 = .ok (.getfield 27, 3) := by decide +kernel
theorem dX0_findOne_4 : decode cX0_findOne 4 = .ok (.iload_n 1, 1) := by decide +kernel
theorem dX0_findOne_5 : decode cX0_findOne 5 = .ok (.iaload, 1) := by decide +kernel
theorem dX0_findOne_6 : decode cX0_findOne 6 = .ok (.istore 4, 2) := by decide +kernel
theorem dX0_findOne_8 : decode cX0_findOne 8 = .ok (.iload 4, 2) := by decide +kernel
theorem dX0_findOne_10 : decode cX0_findOne 10 = .ok (.iload_n 2, 1) := by decide +kernel
theorem dX0_findOne_11 : decode cX0_findOne 11 = .ok (.iload_n 3, 1) := by decide +kernel
theorem dX0_findOne_12 : decode cX0_findOne 12 = .ok (.imul, 1) := by decide +kernel
theorem dX0_findOne_13 : decode cX0_findOne 13 = .ok (.iadd, 1) := by decide +kernel
theorem dX0_findOne_14 : decode cX0_findOne 14 = .ok (.istore 5, 2) := by decide +kernel
theorem dX0_findOne_16 : decode cX0_findOne 16 = .ok (.iload 5, 2) := by decide +kernel
theorem dX0_findOne_18 : decode cX0_findOne 18 = .ok (.ifCond .le 8, 3) := by decide +kernel
theorem dX0_findOne_21 : decode cX0_findOne 21 = .ok (.iload 4, 2) := by decide +kernel
theorem dX0_findOne_23 : decode cX0_findOne 23 = .ok (.ifCond .gt 14, 3) := by decide +kernel
theorem dX0_findOne_26 : decode cX0_findOne 26 = .ok (.aload_n 0, 1) := by decide +kernel
theorem dX0_findOne_27 : decode cX0_findOne 27 = .ok (.iconst 1, 1) := by decide +kernel
theorem dX0_findOne_28 : decode cX0_findOne 28 = .ok (.putfield 55, 3) := by decide +kernel
theorem dX0_findOne_31 : decode cX0_findOne 31 = .ok (.aload_n 0, 1) := by decide +kernel
theorem dX0_findOne_32 : decode cX0_findOne 32 = .ok (.iconst 0, 1) := by decide +kernel
theorem dX0_findOne_33 : decode cX0_findOne 33 = .ok (.putfield 58, 3) := by decide +kernel
theorem dX0_findOne_36 : decode cX0_findOne 36 = .ok (.return_, 1) := by decide +kernel
theorem dX0_findOne_37 : decode cX0_findOne 37 = .ok (.aload_n 0, 1) := by decide +kernel
theorem dX0_findOne_38 : decode cX0_findOne 38 = .ok (.iconst 1, 1) := by decide +kernel
theorem dX0_findOne_39 : decode cX0_findOne 39 = .ok (.aload_n 0, 1) := by decide +kernel
theorem dX0_findOne_40 : decode cX0_findOne 40 = .ok (.getfield 34, 3) := by decide +kernel
theorem dX0_findOne_43 : decode cX0_findOne 43 = .ok (.iload_n 1, 1) := by decide +kernel
theorem dX0_findOne_44 : decode cX0_findOne 44 = .ok (.iaload, 1) := by decide +kernel
theorem dX0_findOne_45 : decode cX0_findOne 45 = .ok (.iload 5, 2) := by decide +kernel
theorem dX0_findOne_47 : decode cX0_findOne 47 = .ok (.imul, 1) := by decide +kernel
theorem dX0_findOne_48 : decode cX0_findOne 48 = .ok (.iload 4, 2) := by decide +kernel
theorem dX0_findOne_50 : decode cX0_findOne 50 = .ok (.iadd, 1) := by decide +kernel
theorem dX0_findOne_51 : decode cX0_findOne 51 = .ok (.iconst 1, 1) := by decide +kernel
theorem dX0_findOne_52 : decode cX0_findOne 52 = .ok (.isub, 1) := by decide +kernel
theorem dX0_findOne_53 : decode cX0_findOne 53 = .ok (.iload 4, 2) := by decide +kernel
theorem dX0_findOne_55 : decode cX0_findOne 55 = .ok (.idiv, 1) := by decide +kernel
theorem dX0_findOne_56 : decode cX0_findOne 56 = .ok (.invokestatic 85, 3) := by decide +kernel
theorem dX0_findOne_59 : decode cX0_findOne 59 = .ok (.putfield 55, 3) := by decide +kernel
theorem dX0_findOne_62 : decode cX0_findOne 62 = .ok (.aload_n 0, 1) := by decide +kernel
theorem dX0_findOne_63 : decode cX0_findOne 63 = .ok (.sipush 200, 3) := by decide +kernel
theorem dX0_findOne_66 : decode cX0_findOne 66 = .ok (.aload_n 0, 1) := by decide +kernel
theorem dX0_findOne_67 : decode cX0_findOne 67 = .ok (.getfield 34, 3) := by decide +kernel
theorem dX0_findOne_70 : decode cX0_findOne 70 = .ok (.iload_n 1, 1) := by decide +kernel
theorem dX0_findOne_71 : decode cX0_findOne 71 = .ok (.iaload, 1) := by decide +kernel
theorem dX0_findOne_72 : decode cX0_findOne 72 = .ok (.iconst 1, 1) := by decide +kernel
theorem dX0_findOne_73 : decode cX0_findOne 73 = .ok (.iadd, 1) := by decide +kernel
theorem dX0_findOne_74 : decode cX0_findOne 74 = .ok (.iload 5, 2) := by decide +kernel
theorem dX0_findOne_76 : decode cX0_findOne 76 = .ok (.imul, 1) := by decide +kernel
theorem dX0_findOne_77 : decode cX0_findOne 77 = .ok (.iconst 1, 1) := by decide +kernel
theorem dX0_findOne_78 : decode cX0_findOne 78 = .ok (.isub, 1) := by decide +kernel
theorem dX0_findOne_79 : decode cX0_findOne 79 = .ok (.iload 4, 2) := by decide +kernel
theorem dX0_findOne_81 : decode cX0_findOne 81 = .ok (.idiv, 1) := by decide +kernel
theorem dX0_findOne_82 : decode cX0_findOne 82 = .ok (.invokestatic 91, 3) := by decide +kernel
theorem dX0_findOne_85 : decode cX0_findOne 85 = .ok (.putfield 58, 3) := by decide +kernel
theorem dX0_findOne_88 : decode cX0_findOne 88 = .ok (.return_, 1) := by decide +kernel
theorem dX0_pairs_0 : decode cX0_pairs 0 = .ok (.iconst 0, 1) := by decide +kernel
theorem dX0_pairs_1 : decode cX0_pairs 1 = .ok (.istore_n 1, 1) := by decide +kernel
theorem dX0_pairs_2 : decode cX0_pairs 2 = .ok (.iconst 0, 1) := by decide +kernel
theorem dX0_pairs_3 : decode cX0_pairs 3 = .ok (.istore_n 2, 1) := by decide +kernel
theorem dX0_pairs_4 : decode cX0_pairs 4 = .ok (.iload_n 2, 1) := by decide +kernel
theorem dX0_pairs_5 : decode cX0_pairs 5 = .ok (.bipush 30, 2) := by decide +kernel
theorem dX0_pairs_7 : decode cX0_pairs 7 = .ok (.if_icmp .gt 31, 3) := by decide +kernel
theorem dX0_pairs_10 : decode cX0_pairs 10 = .ok (.iload_n 1, 1) := by decide +kernel
theorem dX0_pairs_11 : decode cX0_pairs 11 = .ok (.iconst 0, 1) := by decide +kernel
theorem dX0_pairs_12 : decode cX0_pairs 12 = .ok (.aload_n 0, 1) := by decide +kernel
theorem dX0_pairs_13 : decode cX0_pairs 13 = .ok (.getfield 40, 3) := by decide +kernel
theorem dX0_pairs_16 : decode cX0_pairs 16 = .ok (.iload_n 2, 1) := by decide +kernel
theorem dX0_pairs_17 : decode cX0_pairs 17 = .ok (.iaload, 1) := by decide +kernel
theorem dX0_pairs_18 : decode cX0_pairs 18 = .ok (.aload_n 0, 1) := by decide +kernel
theorem dX0_pairs_19 : decode cX0_pairs 19 = .ok (.getfield 37, 3) := by decide +kernel
theorem dX0_pairs_22 : decode cX0_pairs 22 = .ok (.iload_n 2, 1) := by decide +kernel
theorem dX0_pairs_23 : decode cX0_pairs 23 = .ok (.iaload, 1) := by decide +kernel
theorem dX0_pairs_24 : decode cX0_pairs 24 = .ok (.isub, 1) := by decide +kernel
theorem dX0_pairs_25 : decode cX0_pairs 25 = .ok (.iconst 1, 1) := by decide +kernel
theorem dX0_pairs_26 : decode cX0_pairs 26 = .ok (.iadd, 1) := by decide +kernel
theorem dX0_pairs_27 : decode cX0_pairs 27 = .ok (.invokestatic 85, 3) := by decide +kernel
theorem dX0_pairs_30 : decode cX0_pairs 30 = .ok (.iadd, 1) := by decide +kernel
theorem dX0_pairs_31 : decode cX0_pairs 31 = .ok (.istore_n 1, 1) := by decide +kernel
theorem dX0_pairs_32 : decode cX0_pairs 32 = .ok (.iinc 2 1, 3) := by decide +kernel
theorem dX0_pairs_35 : decode cX0_pairs 35 = .ok (.goto (-31), 3) := by decide +kernel
theorem dX0_pairs_38 : decode cX0_pairs 38 = .ok (.iload_n 1, 1) := by decide +kernel
theorem dX0_pairs_39 : decode cX0_pairs 39 = .ok (.ireturn, 1) := by decide +kernel
theorem dX0_findFirst_0 : decode cX0_findFirst 0 = .ok (.aload_n 0, 1) := by decide +kernel
theorem dX0_findFirst_1 : decode cX0_findFirst 1 = .ok (.iconst (-1), 1) := by decide +kernel
theorem dX0_findFirst_2 : decode cX0_findFirst 2 = .ok (.putfield 15, 3) := by decide +kernel
theorem dX0_findFirst_5 : decode cX0_findFirst 5 = .ok (.aload_n 0, 1) := by decide +kernel
theorem dX0_findFirst_6 : decode cX0_findFirst 6 = .ok (.iconst (-1), 1) := by decide +kernel
theorem dX0_findFirst_7 : decode cX0_findFirst 7 = .ok (.putfield 18, 3) := by decide +kernel
theorem dX0_findFirst_10 : decode cX0_findFirst 10 = .ok (.iconst 0, 1) := by decide +kernel
theorem dX0_findFirst_11 : decode cX0_findFirst 11 = .ok (.istore_n 1, 1) := by decide +kernel
theorem dX0_findFirst_12 : decode cX0_findFirst 12 = .ok (.iload_n 1, 1) := by decide +kernel
theorem dX0_findFirst_13 : decode cX0_findFirst 13 = .ok (.bipush 30, 2) := by decide +kernel
theorem dX0_findFirst_15 : decode cX0_findFirst 15 = .ok (.if_icmp .gt 60, 3) := by decide +kernel
theorem dX0_findFirst_18 : decode cX0_findFirst 18 = .ok (.aload_n 0, 1) := by decide +kernel
theorem dX0_findFirst_19 : decode cX0_findFirst 19 = .ok (.getfield 37, 3) := by decide +kernel
theorem dX0_findFirst_22 : decode cX0_findFirst 22 = .ok (.iload_n 1, 1) := by decide +kernel
theorem dX0_findFirst_23 : decode cX0_findFirst 23 = .ok (.iaload, 1) := by decide +kernel
theorem dX0_findFirst_24 : decode cX0_findFirst 24 = .ok (.aload_n 0, 1) := by decide +kernel
theorem dX0_findFirst_25 : decode cX0_findFirst 25 = .ok (.getfield 40, 3) := by decide +kernel
theorem dX0_findFirst_28 : decode cX0_findFirst 28 = .ok (.iload_n 1, 1) := by decide +kernel
theorem dX0_findFirst_29 : decode cX0_findFirst 29 = .ok (.iaload, 1) := by decide +kernel
theorem dX0_findFirst_30 : decode cX0_findFirst 30 = .ok (.if_icmp .gt 39, 3) := by decide +kernel
theorem dX0_findFirst_33 : decode cX0_findFirst 33 = .ok (.aload_n 0, 1) := by decide +kernel
theorem dX0_findFirst_34 : decode cX0_findFirst 34 = .ok (.getfield 15, 3) := by decide +kernel
theorem dX0_findFirst_37 : decode cX0_findFirst 37 = .ok (.iconst (-1), 1) := by decide +kernel
theorem dX0_findFirst_38 : decode cX0_findFirst 38 = .ok (.if_icmp .eq 16, 3) := by decide +kernel
theorem dX0_findFirst_41 : decode cX0_findFirst 41 = .ok (.aload_n 0, 1) := by decide +kernel
theorem dX0_findFirst_42 : decode cX0_findFirst 42 = .ok (.getfield 37, 3) := by decide +kernel
theorem dX0_findFirst_45 : decode cX0_findFirst 45 = .ok (.iload_n 1, 1) := by decide +kernel
theorem dX0_findFirst_46 : decode cX0_findFirst 46 = .ok (.iaload, 1) := by decide +kernel
theorem dX0_findFirst_47 : decode cX0_findFirst 47 = .ok (.aload_n 0, 1) := by decide +kernel
theorem dX0_findFirst_48 : decode cX0_findFirst 48 = .ok (.getfield 15, 3) := by decide +kernel
theorem dX0_findFirst_51 : decode cX0_findFirst 51 = .ok (.if_icmp .ge 18, 3) := by decide +kernel
theorem dX0_findFirst_54 : decode cX0_findFirst 54 = .ok (.aload_n 0, 1) := by decide +kernel
theorem dX0_findFirst_55 : decode cX0_findFirst 55 = .ok (.aload_n 0, 1) := by decide +kernel
theorem dX0_findFirst_56 : decode cX0_findFirst 56 = .ok (.getfield 37, 3) := by decide +kernel
theorem dX0_findFirst_59 : decode cX0_findFirst 59 = .ok (.iload_n 1, 1) := by decide +kernel
theorem dX0_findFirst_60 : decode cX0_findFirst 60 = .ok (.iaload, 1) := by decide +kernel
theorem dX0_findFirst_61 : decode cX0_findFirst 61 = .ok (.putfield 15, 3) := by decide +kernel
theorem dX0_findFirst_64 : decode cX0_findFirst 64 = .ok (.aload_n 0, 1) := by decide +kernel
theorem dX0_findFirst_65 : decode cX0_findFirst 65 = .ok (.iload_n 1, 1) := by decide +kernel
theorem dX0_findFirst_66 : decode cX0_findFirst 66 = .ok (.putfield 18, 3) := by decide +kernel
theorem dX0_findFirst_69 : decode cX0_findFirst 69 = .ok (.iinc 1 1, 3) := by decide +kernel
theorem dX0_findFirst_72 : decode cX0_findFirst 72 = .ok (.goto (-60), 3) := by decide +kernel
theorem dX0_findFirst_75 : decode cX0_findFirst 75 = .ok (.return_, 1) := by decide +kernel
theorem dX0_unlikeSteps_0 : decode cX0_unlikeSteps 0 = .ok (.aload_n 0, 1) := by decide +kernel
theorem dX0_unlikeSteps_1 : decode cX0_unlikeSteps 1 = .ok (.getfield 49, 3) := by decide +kernel
theorem dX0_unlikeSteps_4 : decode cX0_unlikeSteps 4 = .ok (.iconst 0, 1) := by decide +kernel
theorem dX0_unlikeSteps_5 : decode cX0_unlikeSteps 5 = .ok (.invokestatic 94, 3) := by decide +kernel
theorem dX0_unlikeSteps_8 : decode cX0_unlikeSteps 8 = .ok (.iconst 0, 1) := by decide +kernel
theorem dX0_unlikeSteps_9 : decode cX0_unlikeSteps 9 = .ok (.istore_n 1, 1) := by decide +kernel
theorem dX0_unlikeSteps_10 : decode cX0_unlikeSteps 10 = .ok (.iconst 0, 1) := by decide +kernel
theorem dX0_unlikeSteps_11 : decode cX0_unlikeSteps 11 = .ok (.istore_n 2, 1) := by decide +kernel
theorem dX0_unlikeSteps_12 : decode cX0_unlikeSteps 12 = .ok (.iload_n 2, 1) := by decide +kernel
theorem dX0_unlikeSteps_13 : decode cX0_unlikeSteps 13 = .ok (.bipush 30, 2) := by decide +kernel
theorem dX0_unlikeSteps_15 : decode cX0_unlikeSteps 15 = .ok (.if_icmp .gt 56, 3) := by decide +kernel
theorem dX0_unlikeSteps_18 : decode cX0_unlikeSteps 18 = .ok (.aload_n 0, 1) := by decide +kernel
theorem dX0_unlikeSteps_19 : decode cX0_unlikeSteps 19 = .ok (.getfield 37, 3) := by decide +kernel
theorem dX0_unlikeSteps_22 : decode cX0_unlikeSteps 22 = .ok (.iload_n 2, 1) := by decide +kernel
theorem dX0_unlikeSteps_23 : decode cX0_unlikeSteps 23 = .ok (.iaload, 1) := by decide +kernel
theorem dX0_unlikeSteps_24 : decode cX0_unlikeSteps 24 = .ok (.istore_n 3, 1) := by decide +kernel
theorem dX0_unlikeSteps_25 : decode cX0_unlikeSteps 25 = .ok (.iload_n 3, 1) := by decide +kernel
theorem dX0_unlikeSteps_26 : decode cX0_unlikeSteps 26 = .ok (.aload_n 0, 1) := by decide +kernel
theorem dX0_unlikeSteps_27 : decode cX0_unlikeSteps 27 = .ok (.getfield 40, 3) := by decide +kernel
theorem dX0_unlikeSteps_30 : decode cX0_unlikeSteps 30 = .ok (.iload_n 2, 1) := by decide +kernel
theorem dX0_unlikeSteps_31 : decode cX0_unlikeSteps 31 = .ok (.iaload, 1) := by decide +kernel
theorem dX0_unlikeSteps_32 : decode cX0_unlikeSteps 32 = .ok (.if_icmp .gt 33, 3) := by decide +kernel
theorem dX0_unlikeSteps_35 : decode cX0_unlikeSteps 35 = .ok (.iload_n 1, 1) := by decide +kernel
theorem dX0_unlikeSteps_36 : decode cX0_unlikeSteps 36 = .ok (.aload_n 0, 1) := by decide +kernel
theorem dX0_unlikeSteps_37 : decode cX0_unlikeSteps 37 = .ok (.getfield 49, 3) := by decide +kernel
theorem dX0_unlikeSteps_40 : decode cX0_unlikeSteps 40 = .ok (.iload_n 3, 1) := by decide +kernel
theorem dX0_unlikeSteps_41 : decode cX0_unlikeSteps 41 = .ok (.iaload, 1) := by decide +kernel
theorem dX0_unlikeSteps_42 : decode cX0_unlikeSteps 42 = .ok (.ifCond .ne 7, 3) := by decide +kernel
theorem dX0_unlikeSteps_45 : decode cX0_unlikeSteps 45 = .ok (.iconst 1, 1) := by decide +kernel
theorem dX0_unlikeSteps_46 : decode cX0_unlikeSteps 46 = .ok (.goto 4, 3) := by decide +kernel
theorem dX0_unlikeSteps_49 : decode cX0_unlikeSteps 49 = .ok (.iconst 0, 1) := by decide +kernel
theorem dX0_unlikeSteps_50 : decode cX0_unlikeSteps 50 = .ok (.iadd, 1) := by decide +kernel
theorem dX0_unlikeSteps_51 : decode cX0_unlikeSteps 51 = .ok (.istore_n 1, 1) := by decide +kernel
theorem dX0_unlikeSteps_52 : decode cX0_unlikeSteps 52 = .ok (.aload_n 0, 1) := by decide +kernel
theorem dX0_unlikeSteps_53 : decode cX0_unlikeSteps 53 = .ok (.getfield 49, 3) := by decide +kernel
theorem dX0_unlikeSteps_56 : decode cX0_unlikeSteps 56 = .ok (.iload_n 3, 1) := by decide +kernel
theorem dX0_unlikeSteps_57 : decode cX0_unlikeSteps 57 = .ok (.iconst 1, 1) := by decide +kernel
theorem dX0_unlikeSteps_58 : decode cX0_unlikeSteps 58 = .ok (.iastore, 1) := by decide +kernel
theorem dX0_unlikeSteps_59 : decode cX0_unlikeSteps 59 = .ok (.iinc 3 1, 3) := by decide +kernel
theorem dX0_unlikeSteps_62 : decode cX0_unlikeSteps 62 = .ok (.goto (-37), 3) := by decide +kernel
theorem dX0_unlikeSteps_65 : decode cX0_unlikeSteps 65 = .ok (.iinc 2 1, 3) := by decide +kernel
theorem dX0_unlikeSteps_68 : decode cX0_unlikeSteps 68 = .ok (.goto (-56), 3) := by decide +kernel
theorem dX0_unlikeSteps_71 : decode cX0_unlikeSteps 71 = .ok (.iload_n 1, 1) := by decide +kernel
theorem dX0_unlikeSteps_72 : decode cX0_unlikeSteps 72 = .ok (.ireturn, 1) := by decide +kernel
theorem dX0_unlikeSpeeds_0 : decode cX0_unlikeSpeeds 0 = .ok (.iconst 0, 1) := by decide +kernel
theorem dX0_unlikeSpeeds_1 : decode cX0_unlikeSpeeds 1 = .ok (.istore_n 1, 1) := by decide +kernel
theorem dX0_unlikeSpeeds_2 : decode cX0_unlikeSpeeds 2 = .ok (.iconst 0, 1) := by decide +kernel
theorem dX0_unlikeSpeeds_3 : decode cX0_unlikeSpeeds 3 = .ok (.istore_n 2, 1) := by decide +kernel
theorem dX0_unlikeSpeeds_4 : decode cX0_unlikeSpeeds 4 = .ok (.iload_n 2, 1) := by decide +kernel
theorem dX0_unlikeSpeeds_5 : decode cX0_unlikeSpeeds 5 = .ok (.bipush 30, 2) := by decide +kernel
theorem dX0_unlikeSpeeds_7 : decode cX0_unlikeSpeeds 7 = .ok (.if_icmp .gt 32, 3) := by decide +kernel
theorem dX0_unlikeSpeeds_10 : decode cX0_unlikeSpeeds 10 = .ok (.iload_n 1, 1) := by decide +kernel
theorem dX0_unlikeSpeeds_11 : decode cX0_unlikeSpeeds 11 = .ok (.aload_n 0, 1) := by decide +kernel
theorem dX0_unlikeSpeeds_12 : decode cX0_unlikeSpeeds 12 = .ok (.getfield 37, 3) := by decide +kernel
theorem dX0_unlikeSpeeds_15 : decode cX0_unlikeSpeeds 15 = .ok (.iload_n 2, 1) := by decide +kernel
theorem dX0_unlikeSpeeds_16 : decode cX0_unlikeSpeeds 16 = .ok (.iaload, 1) := by decide +kernel
theorem dX0_unlikeSpeeds_17 : decode cX0_unlikeSpeeds 17 = .ok (.aload_n 0, 1) := by decide +kernel
theorem dX0_unlikeSpeeds_18 : decode cX0_unlikeSpeeds 18 = .ok (.getfield 40, 3) := by decide +kernel
theorem dX0_unlikeSpeeds_21 : decode cX0_unlikeSpeeds 21 = .ok (.iload_n 2, 1) := by decide +kernel
theorem dX0_unlikeSpeeds_22 : decode cX0_unlikeSpeeds 22 = .ok (.iaload, 1) := by decide +kernel
theorem dX0_unlikeSpeeds_23 : decode cX0_unlikeSpeeds 23 = .ok (.if_icmp .gt 7, 3) := by decide +kernel
theorem dX0_unlikeSpeeds_26 : decode cX0_unlikeSpeeds 26 = .ok (.iconst 1, 1) := by decide +kernel
theorem dX0_unlikeSpeeds_27 : decode cX0_unlikeSpeeds 27 = .ok (.goto 4, 3) := by decide +kernel
theorem dX0_unlikeSpeeds_30 : decode cX0_unlikeSpeeds 30 = .ok (.iconst 0, 1) := by decide +kernel
theorem dX0_unlikeSpeeds_31 : decode cX0_unlikeSpeeds 31 = .ok (.iadd, 1) := by decide +kernel
theorem dX0_unlikeSpeeds_32 : decode cX0_unlikeSpeeds 32 = .ok (.istore_n 1, 1) := by decide +kernel
theorem dX0_unlikeSpeeds_33 : decode cX0_unlikeSpeeds 33 = .ok (.iinc 2 1, 3) := by decide +kernel
theorem dX0_unlikeSpeeds_36 : decode cX0_unlikeSpeeds 36 = .ok (.goto (-32), 3) := by decide +kernel
theorem dX0_unlikeSpeeds_39 : decode cX0_unlikeSpeeds 39 = .ok (.iload_n 1, 1) := by decide +kernel
theorem dX0_unlikeSpeeds_40 : decode cX0_unlikeSpeeds 40 = .ok (.ireturn, 1) := by decide +kernel
theorem dX0_fewestWrong_0 : decode cX0_fewestWrong 0 = .ok (.iconst 1, 1) := by decide +kernel
theorem dX0_fewestWrong_1 : decode cX0_fewestWrong 1 = .ok (.aload_n 0, 1) := by decide +kernel
theorem dX0_fewestWrong_2 : decode cX0_fewestWrong 2 = .ok (.getfield 9, 3) := by decide +kernel
theorem dX0_fewestWrong_5 : decode cX0_fewestWrong 5 = .ok (.ishl, 1) := by decide +kernel
theorem dX0_fewestWrong_6 : decode cX0_fewestWrong 6 = .ok (.iconst 1, 1) := by decide +kernel
theorem dX0_fewestWrong_7 : decode cX0_fewestWrong 7 = .ok (.isub, 1) := by decide +kernel
theorem dX0_fewestWrong_8 : decode cX0_fewestWrong 8 = .ok (.istore_n 1, 1) := by decide +kernel
theorem dX0_fewestWrong_9 : decode cX0_fewestWrong 9 = .ok (.iload_n 1, 1) := by decide +kernel
theorem dX0_fewestWrong_10 : decode cX0_fewestWrong 10 = .ok (.istore_n 2, 1) := by decide +kernel
theorem dX0_fewestWrong_11 : decode cX0_fewestWrong 11 = .ok (.iconst 0, 1) := by decide +kernel
theorem dX0_fewestWrong_12 : decode cX0_fewestWrong 12 = .ok (.istore_n 3, 1) := by decide +kernel
theorem dX0_fewestWrong_13 : decode cX0_fewestWrong 13 = .ok (.iload_n 3, 1) := by decide +kernel
theorem dX0_fewestWrong_14 : decode cX0_fewestWrong 14 = .ok (.bipush 30, 2) := by decide +kernel
theorem dX0_fewestWrong_16 : decode cX0_fewestWrong 16 = .ok (.if_icmp .gt 86, 3) := by decide +kernel
theorem dX0_fewestWrong_19 : decode cX0_fewestWrong 19 = .ok (.aload_n 0, 1) := by decide +kernel
theorem dX0_fewestWrong_20 : decode cX0_fewestWrong 20 = .ok (.getfield 43, 3) := by decide +kernel
theorem dX0_fewestWrong_23 : decode cX0_fewestWrong 23 = .ok (.iconst 0, 1) := by decide +kernel
theorem dX0_fewestWrong_24 : decode cX0_fewestWrong 24 = .ok (.invokestatic 94, 3) := by decide +kernel
theorem dX0_fewestWrong_27 : decode cX0_fewestWrong 27 = .ok (.iconst 0, 1) := by decide +kernel
theorem dX0_fewestWrong_28 : decode cX0_fewestWrong 28 = .ok (.istore 4, 2) := by decide +kernel
theorem dX0_fewestWrong_30 : decode cX0_fewestWrong 30 = .ok (.iload 4, 2) := by decide +kernel
theorem dX0_fewestWrong_32 : decode cX0_fewestWrong 32 = .ok (.aload_n 0, 1) := by decide +kernel
theorem dX0_fewestWrong_33 : decode cX0_fewestWrong 33 = .ok (.getfield 9, 3) := by decide +kernel
theorem dX0_fewestWrong_36 : decode cX0_fewestWrong 36 = .ok (.if_icmp .ge 27, 3) := by decide +kernel
theorem dX0_fewestWrong_39 : decode cX0_fewestWrong 39 = .ok (.aload_n 0, 1) := by decide +kernel
theorem dX0_fewestWrong_40 : decode cX0_fewestWrong 40 = .ok (.aload_n 0, 1) := by decide +kernel
theorem dX0_fewestWrong_41 : decode cX0_fewestWrong 41 = .ok (.getfield 43, 3) := by decide +kernel
theorem dX0_fewestWrong_44 : decode cX0_fewestWrong 44 = .ok (.iload 4, 2) := by decide +kernel
theorem dX0_fewestWrong_46 : decode cX0_fewestWrong 46 = .ok (.aload_n 0, 1) := by decide +kernel
theorem dX0_fewestWrong_47 : decode cX0_fewestWrong 47 = .ok (.getfield 31, 3) := by decide +kernel
theorem dX0_fewestWrong_50 : decode cX0_fewestWrong 50 = .ok (.iload 4, 2) := by decide +kernel
theorem dX0_fewestWrong_52 : decode cX0_fewestWrong 52 = .ok (.iaload, 1) := by decide +kernel
theorem dX0_fewestWrong_53 : decode cX0_fewestWrong 53 = .ok (.iload_n 3, 1) := by decide +kernel
theorem dX0_fewestWrong_54 : decode cX0_fewestWrong 54 = .ok (.invokevirtual 100, 3) := by decide +kernel
theorem dX0_fewestWrong_57 : decode cX0_fewestWrong 57 = .ok (.iinc 4 1, 3) := by decide +kernel
theorem dX0_fewestWrong_60 : decode cX0_fewestWrong 60 = .ok (.goto (-30), 3) := by decide +kernel
theorem dX0_fewestWrong_63 : decode cX0_fewestWrong 63 = .ok (.iconst 1, 1) := by decide +kernel
theorem dX0_fewestWrong_64 : decode cX0_fewestWrong 64 = .ok (.istore 4, 2) := by decide +kernel
theorem dX0_fewestWrong_66 : decode cX0_fewestWrong 66 = .ok (.iload 4, 2) := by decide +kernel
theorem dX0_fewestWrong_68 : decode cX0_fewestWrong 68 = .ok (.sipush 200, 3) := by decide +kernel
theorem dX0_fewestWrong_71 : decode cX0_fewestWrong 71 = .ok (.if_icmp .gt 25, 3) := by decide +kernel
theorem dX0_fewestWrong_74 : decode cX0_fewestWrong 74 = .ok (.iload_n 1, 1) := by decide +kernel
theorem dX0_fewestWrong_75 : decode cX0_fewestWrong 75 = .ok (.aload_n 0, 1) := by decide +kernel
theorem dX0_fewestWrong_76 : decode cX0_fewestWrong 76 = .ok (.getfield 43, 3) := by decide +kernel
theorem dX0_fewestWrong_79 : decode cX0_fewestWrong 79 = .ok (.iload 4, 2) := by decide +kernel
theorem dX0_fewestWrong_81 : decode cX0_fewestWrong 81 = .ok (.iaload, 1) := by decide +kernel
theorem dX0_fewestWrong_82 : decode cX0_fewestWrong 82 = .ok (.iconst (-1), 1) := by decide +kernel
theorem dX0_fewestWrong_83 : decode cX0_fewestWrong 83 = .ok (.ixor, 1) := by decide +kernel
theorem dX0_fewestWrong_84 : decode cX0_fewestWrong 84 = .ok (.iand, 1) := by decide +kernel
theorem dX0_fewestWrong_85 : decode cX0_fewestWrong 85 = .ok (.iload_n 2, 1) := by decide +kernel
theorem dX0_fewestWrong_86 : decode cX0_fewestWrong 86 = .ok (.invokestatic 104, 3) := by decide +kernel
theorem dX0_fewestWrong_89 : decode cX0_fewestWrong 89 = .ok (.istore_n 2, 1) := by decide +kernel
theorem dX0_fewestWrong_90 : decode cX0_fewestWrong 90 = .ok (.iinc 4 1, 3) := by decide +kernel
theorem dX0_fewestWrong_93 : decode cX0_fewestWrong 93 = .ok (.goto (-27), 3) := by decide +kernel
theorem dX0_fewestWrong_96 : decode cX0_fewestWrong 96 = .ok (.iinc 3 1, 3) := by decide +kernel
theorem dX0_fewestWrong_99 : decode cX0_fewestWrong 99 = .ok (.goto (-86), 3) := by decide +kernel
theorem dX0_fewestWrong_102 : decode cX0_fewestWrong 102 = .ok (.iload_n 2, 1) := by decide +kernel
theorem dX0_fewestWrong_103 : decode cX0_fewestWrong 103 = .ok (.ireturn, 1) := by decide +kernel
theorem dX0_fewer_0 : decode cX0_fewer 0 = .ok (.iload_n 0, 1) := by decide +kernel
theorem dX0_fewer_1 : decode cX0_fewer 1 = .ok (.invokestatic 107, 3) := by decide +kernel
theorem dX0_fewer_4 : decode cX0_fewer 4 = .ok (.istore_n 2, 1) := by decide +kernel
theorem dX0_fewer_5 : decode cX0_fewer 5 = .ok (.iload_n 1, 1) := by decide +kernel
theorem dX0_fewer_6 : decode cX0_fewer 6 = .ok (.invokestatic 107, 3) := by decide +kernel
theorem dX0_fewer_9 : decode cX0_fewer 9 = .ok (.istore_n 3, 1) := by decide +kernel
theorem dX0_fewer_10 : decode cX0_fewer 10 = .ok (.iload_n 2, 1) := by decide +kernel
theorem dX0_fewer_11 : decode cX0_fewer 11 = .ok (.iload_n 3, 1) := by decide +kernel
theorem dX0_fewer_12 : decode cX0_fewer 12 = .ok (.if_icmp .lt 13, 3) := by decide +kernel
theorem dX0_fewer_15 : decode cX0_fewer 15 = .ok (.iload_n 2, 1) := by decide +kernel
theorem dX0_fewer_16 : decode cX0_fewer 16 = .ok (.iload_n 3, 1) := by decide +kernel
theorem dX0_fewer_17 : decode cX0_fewer 17 = .ok (.if_icmp .ne 12, 3) := by decide +kernel
theorem dX0_fewer_20 : decode cX0_fewer 20 = .ok (.iload_n 0, 1) := by decide +kernel
theorem dX0_fewer_21 : decode cX0_fewer 21 = .ok (.iload_n 1, 1) := by decide +kernel
theorem dX0_fewer_22 : decode cX0_fewer 22 = .ok (.if_icmp .ge 7, 3) := by decide +kernel
theorem dX0_fewer_25 : decode cX0_fewer 25 = .ok (.iload_n 0, 1) := by decide +kernel
theorem dX0_fewer_26 : decode cX0_fewer 26 = .ok (.goto 4, 3) := by decide +kernel
theorem dX0_fewer_29 : decode cX0_fewer 29 = .ok (.iload_n 1, 1) := by decide +kernel
theorem dX0_fewer_30 : decode cX0_fewer 30 = .ok (.ireturn, 1) := by decide +kernel
theorem dX0_markFitting_0 : decode cX0_markFitting 0 = .ok (.aload_n 0, 1) := by decide +kernel
theorem dX0_markFitting_1 : decode cX0_markFitting 1 = .ok (.iload_n 2, 1) := by decide +kernel
theorem dX0_markFitting_2 : decode cX0_markFitting 2 = .ok (.iload_n 3, 1) := by decide +kernel
theorem dX0_markFitting_3 : decode cX0_markFitting 3 = .ok (.iload 4, 2) := by decide +kernel
theorem dX0_markFitting_5 : decode cX0_markFitting 5 = .ok (.invokevirtual 81, 3) := by decide +kernel
theorem dX0_markFitting_8 : decode cX0_markFitting 8 = .ok (.aload_n 0, 1) := by decide +kernel
theorem dX0_markFitting_9 : decode cX0_markFitting 9 = .ok (.getfield 55, 3) := by decide +kernel
theorem dX0_markFitting_12 : decode cX0_markFitting 12 = .ok (.istore 5, 2) := by decide +kernel
theorem dX0_markFitting_14 : decode cX0_markFitting 14 = .ok (.iload 5, 2) := by decide +kernel
theorem dX0_markFitting_16 : decode cX0_markFitting 16 = .ok (.aload_n 0, 1) := by decide +kernel
theorem dX0_markFitting_17 : decode cX0_markFitting 17 = .ok (.getfield 58, 3) := by decide +kernel
theorem dX0_markFitting_20 : decode cX0_markFitting 20 = .ok (.if_icmp .gt 19, 3) := by decide +kernel
theorem dX0_markFitting_23 : decode cX0_markFitting 23 = .ok (.aload_n 1, 1) := by decide +kernel
theorem dX0_markFitting_24 : decode cX0_markFitting 24 = .ok (.iload 5, 2) := by decide +kernel
theorem dX0_markFitting_26 : decode cX0_markFitting 26 = .ok (.dup2, 1) := by decide +kernel
theorem dX0_markFitting_27 : decode cX0_markFitting 27 = .ok (.iaload, 1) := by decide +kernel
theorem dX0_markFitting_28 : decode cX0_markFitting 28 = .ok (.iconst 1, 1) := by decide +kernel
theorem dX0_markFitting_29 : decode cX0_markFitting 29 = .ok (.iload_n 2, 1) := by decide +kernel
theorem dX0_markFitting_30 : decode cX0_markFitting 30 = .ok (.ishl, 1) := by decide +kernel
theorem dX0_markFitting_31 : decode cX0_markFitting 31 = .ok (.ior, 1) := by decide +kernel
theorem dX0_markFitting_32 : decode cX0_markFitting 32 = .ok (.iastore, 1) := by decide +kernel
theorem dX0_markFitting_33 : decode cX0_markFitting 33 = .ok (.iinc 5 1, 3) := by decide +kernel
theorem dX0_markFitting_36 : decode cX0_markFitting 36 = .ok (.goto (-22), 3) := by decide +kernel
theorem dX0_markFitting_39 : decode cX0_markFitting 39 = .ok (.return_, 1) := by decide +kernel
theorem dX0_possibleWays_0 : decode cX0_possibleWays 0 = .ok (.aload_n 0, 1) := by decide +kernel
theorem dX0_possibleWays_1 : decode cX0_possibleWays 1 = .ok (.getfield 9, 3) := by decide +kernel
theorem dX0_possibleWays_4 : decode cX0_possibleWays 4 = .ok (.bipush 10, 2) := by decide +kernel
theorem dX0_possibleWays_6 : decode cX0_possibleWays 6 = .ok (.if_icmp .le 5, 3) := by decide +kernel
theorem dX0_possibleWays_9 : decode cX0_possibleWays 9 = .ok (.iconst 0, 1) := by decide +kernel
theorem dX0_possibleWays_10 : decode cX0_possibleWays 10 = .ok (.ireturn, 1) := by decide +kernel
theorem dX0_possibleWays_11 : decode cX0_possibleWays 11 = .ok (.aload_n 0, 1) := by decide +kernel
theorem dX0_possibleWays_12 : decode cX0_possibleWays 12 = .ok (.getfield 52, 3) := by decide +kernel
theorem dX0_possibleWays_15 : decode cX0_possibleWays 15 = .ok (.iconst 0, 1) := by decide +kernel
theorem dX0_possibleWays_16 : decode cX0_possibleWays 16 = .ok (.invokestatic 94, 3) := by decide +kernel
theorem dX0_possibleWays_19 : decode cX0_possibleWays 19 = .ok (.iconst 0, 1) := by decide +kernel
theorem dX0_possibleWays_20 : decode cX0_possibleWays 20 = .ok (.istore_n 1, 1) := by decide +kernel
theorem dX0_possibleWays_21 : decode cX0_possibleWays 21 = .ok (.iconst 1, 1) := by decide +kernel
theorem dX0_possibleWays_22 : decode cX0_possibleWays 22 = .ok (.aload_n 0, 1) := by decide +kernel
theorem dX0_possibleWays_23 : decode cX0_possibleWays 23 = .ok (.getfield 9, 3) := by decide +kernel
theorem dX0_possibleWays_26 : decode cX0_possibleWays 26 = .ok (.ishl, 1) := by decide +kernel
theorem dX0_possibleWays_27 : decode cX0_possibleWays 27 = .ok (.iconst 1, 1) := by decide +kernel
theorem dX0_possibleWays_28 : decode cX0_possibleWays 28 = .ok (.isub, 1) := by decide +kernel
theorem dX0_possibleWays_29 : decode cX0_possibleWays 29 = .ok (.istore_n 2, 1) := by decide +kernel
theorem dX0_possibleWays_30 : decode cX0_possibleWays 30 = .ok (.iconst 0, 1) := by decide +kernel
theorem dX0_possibleWays_31 : decode cX0_possibleWays 31 = .ok (.istore_n 3, 1) := by decide +kernel
theorem dX0_possibleWays_32 : decode cX0_possibleWays 32 = .ok (.iload_n 3, 1) := by decide +kernel
theorem dX0_possibleWays_33 : decode cX0_possibleWays 33 = .ok (.bipush 30, 2) := by decide +kernel
theorem dX0_possibleWays_35 : decode cX0_possibleWays 35 = .ok (.if_icmp .gt 124, 3) := by decide +kernel
theorem dX0_possibleWays_38 : decode cX0_possibleWays 38 = .ok (.aload_n 0, 1) := by decide +kernel
theorem dX0_possibleWays_39 : decode cX0_possibleWays 39 = .ok (.getfield 43, 3) := by decide +kernel
theorem dX0_possibleWays_42 : decode cX0_possibleWays 42 = .ok (.iconst 0, 1) := by decide +kernel
theorem dX0_possibleWays_43 : decode cX0_possibleWays 43 = .ok (.invokestatic 94, 3) := by decide +kernel
theorem dX0_possibleWays_46 : decode cX0_possibleWays 46 = .ok (.aload_n 0, 1) := by decide +kernel
theorem dX0_possibleWays_47 : decode cX0_possibleWays 47 = .ok (.getfield 46, 3) := by decide +kernel
theorem dX0_possibleWays_50 : decode cX0_possibleWays 50 = .ok (.iconst 0, 1) := by decide +kernel
theorem dX0_possibleWays_51 : decode cX0_possibleWays 51 = .ok (.invokestatic 94, 3) := by decide +kernel
theorem dX0_possibleWays_54 : decode cX0_possibleWays 54 = .ok (.iconst 0, 1) := by decide +kernel
theorem dX0_possibleWays_55 : decode cX0_possibleWays 55 = .ok (.istore 4, 2) := by decide +kernel
theorem dX0_possibleWays_57 : decode cX0_possibleWays 57 = .ok (.iload 4, 2) := by decide +kernel
theorem dX0_possibleWays_59 : decode cX0_possibleWays 59 = .ok (.aload_n 0, 1) := by decide +kernel
theorem dX0_possibleWays_60 : decode cX0_possibleWays 60 = .ok (.getfield 9, 3) := by decide +kernel
theorem dX0_possibleWays_63 : decode cX0_possibleWays 63 = .ok (.if_icmp .ge 33, 3) := by decide +kernel
theorem dX0_possibleWays_66 : decode cX0_possibleWays 66 = .ok (.aload_n 0, 1) := by decide +kernel
theorem dX0_possibleWays_67 : decode cX0_possibleWays 67 = .ok (.aload_n 0, 1) := by decide +kernel
theorem dX0_possibleWays_68 : decode cX0_possibleWays 68 = .ok (.getfield 43, 3) := by decide +kernel
theorem dX0_possibleWays_71 : decode cX0_possibleWays 71 = .ok (.iload 4, 2) := by decide +kernel
theorem dX0_possibleWays_73 : decode cX0_possibleWays 73 = .ok (.iconst 1, 1) := by decide +kernel
theorem dX0_possibleWays_74 : decode cX0_possibleWays 74 = .ok (.iload_n 3, 1) := by decide +kernel
theorem dX0_possibleWays_75 : decode cX0_possibleWays 75 = .ok (.invokevirtual 100, 3) := by decide +kernel
theorem dX0_possibleWays_78 : decode cX0_possibleWays 78 = .ok (.aload_n 0, 1) := by decide +kernel
theorem dX0_possibleWays_79 : decode cX0_possibleWays 79 = .ok (.aload_n 0, 1) := by decide +kernel
theorem dX0_possibleWays_80 : decode cX0_possibleWays 80 = .ok (.getfield 46, 3) := by decide +kernel
theorem dX0_possibleWays_83 : decode cX0_possibleWays 83 = .ok (.iload 4, 2) := by decide +kernel
theorem dX0_possibleWays_85 : decode cX0_possibleWays 85 = .ok (.iconst (-1), 1) := by decide +kernel
theorem dX0_possibleWays_86 : decode cX0_possibleWays 86 = .ok (.iload_n 3, 1) := by decide +kernel
theorem dX0_possibleWays_87 : decode cX0_possibleWays 87 = .ok (.invokevirtual 100, 3) := by decide +kernel
theorem dX0_possibleWays_90 : decode cX0_possibleWays 90 = .ok (.iinc 4 1, 3) := by decide +kernel
theorem dX0_possibleWays_93 : decode cX0_possibleWays 93 = .ok (.goto (-36), 3) := by decide +kernel
theorem dX0_possibleWays_96 : decode cX0_possibleWays 96 = .ok (.iconst 1, 1) := by decide +kernel
theorem dX0_possibleWays_97 : decode cX0_possibleWays 97 = .ok (.istore 4, 2) := by decide +kernel
theorem dX0_possibleWays_99 : decode cX0_possibleWays 99 = .ok (.iload 4, 2) := by decide +kernel
theorem dX0_possibleWays_101 : decode cX0_possibleWays 101 = .ok (.sipush 200, 3) := by decide +kernel
theorem dX0_possibleWays_104 : decode cX0_possibleWays 104 = .ok (.if_icmp .gt 49, 3) := by decide +kernel
theorem dX0_possibleWays_107 : decode cX0_possibleWays 107 = .ok (.aload_n 0, 1) := by decide +kernel
theorem dX0_possibleWays_108 : decode cX0_possibleWays 108 = .ok (.getfield 43, 3) := by decide +kernel
theorem dX0_possibleWays_111 : decode cX0_possibleWays 111 = .ok (.iload 4, 2) := by decide +kernel
theorem dX0_possibleWays_113 : decode cX0_possibleWays 113 = .ok (.iaload, 1) := by decide +kernel
theorem dX0_possibleWays_114 : decode cX0_possibleWays 114 = .ok (.aload_n 0, 1) := by decide +kernel
theorem dX0_possibleWays_115 : decode cX0_possibleWays 115 = .ok (.getfield 46, 3) := by decide +kernel
theorem dX0_possibleWays_118 : decode cX0_possibleWays 118 = .ok (.iload 4, 2) := by decide +kernel
theorem dX0_possibleWays_120 : decode cX0_possibleWays 120 = .ok (.iaload, 1) := by decide +kernel
theorem dX0_possibleWays_121 : decode cX0_possibleWays 121 = .ok (.ior, 1) := by decide +kernel
theorem dX0_possibleWays_122 : decode cX0_possibleWays 122 = .ok (.iload_n 2, 1) := by decide +kernel
theorem dX0_possibleWays_123 : decode cX0_possibleWays 123 = .ok (.if_icmp .ne 24, 3) := by decide +kernel
theorem dX0_possibleWays_126 : decode cX0_possibleWays 126 = .ok (.iload_n 1, 1) := by decide +kernel
theorem dX0_possibleWays_127 : decode cX0_possibleWays 127 = .ok (.aload_n 0, 1) := by decide +kernel
theorem dX0_possibleWays_128 : decode cX0_possibleWays 128 = .ok (.aload_n 0, 1) := by decide +kernel
theorem dX0_possibleWays_129 : decode cX0_possibleWays 129 = .ok (.getfield 43, 3) := by decide +kernel
theorem dX0_possibleWays_132 : decode cX0_possibleWays 132 = .ok (.iload 4, 2) := by decide +kernel
theorem dX0_possibleWays_134 : decode cX0_possibleWays 134 = .ok (.iaload, 1) := by decide +kernel
theorem dX0_possibleWays_135 : decode cX0_possibleWays 135 = .ok (.aload_n 0, 1) := by decide +kernel
theorem dX0_possibleWays_136 : decode cX0_possibleWays 136 = .ok (.getfield 46, 3) := by decide +kernel
theorem dX0_possibleWays_139 : decode cX0_possibleWays 139 = .ok (.iload 4, 2) := by decide +kernel
theorem dX0_possibleWays_141 : decode cX0_possibleWays 141 = .ok (.iaload, 1) := by decide +kernel
theorem dX0_possibleWays_142 : decode cX0_possibleWays 142 = .ok (.invokevirtual 113, 3) := by decide +kernel
theorem dX0_possibleWays_145 : decode cX0_possibleWays 145 = .ok (.iadd, 1) := by decide +kernel
theorem dX0_possibleWays_146 : decode cX0_possibleWays 146 = .ok (.istore_n 1, 1) := by decide +kernel
theorem dX0_possibleWays_147 : decode cX0_possibleWays 147 = .ok (.iinc 4 1, 3) := by decide +kernel
theorem dX0_possibleWays_150 : decode cX0_possibleWays 150 = .ok (.goto (-51), 3) := by decide +kernel
theorem dX0_possibleWays_153 : decode cX0_possibleWays 153 = .ok (.iinc 3 1, 3) := by decide +kernel
theorem dX0_possibleWays_156 : decode cX0_possibleWays 156 = .ok (.goto (-124), 3) := by decide +kernel
theorem dX0_possibleWays_159 : decode cX0_possibleWays 159 = .ok (.iload_n 1, 1) := by decide +kernel
theorem dX0_possibleWays_160 : decode cX0_possibleWays 160 = .ok (.ireturn, 1) := by decide +kernel
theorem dX0_markWays_0 : decode cX0_markWays 0 = .ok (.iload_n 1, 1) := by decide +kernel
theorem dX0_markWays_1 : decode cX0_markWays 1 = .ok (.iload_n 2, 1) := by decide +kernel
theorem dX0_markWays_2 : decode cX0_markWays 2 = .ok (.iand, 1) := by decide +kernel
theorem dX0_markWays_3 : decode cX0_markWays 3 = .ok (.istore_n 3, 1) := by decide +kernel
theorem dX0_markWays_4 : decode cX0_markWays 4 = .ok (.iload_n 1, 1) := by decide +kernel
theorem dX0_markWays_5 : decode cX0_markWays 5 = .ok (.iload_n 2, 1) := by decide +kernel
theorem dX0_markWays_6 : decode cX0_markWays 6 = .ok (.iconst (-1), 1) := by decide +kernel
theorem dX0_markWays_7 : decode cX0_markWays 7 = .ok (.ixor, 1) := by decide +kernel
theorem dX0_markWays_8 : decode cX0_markWays 8 = .ok (.iand, 1) := by decide +kernel
theorem dX0_markWays_9 : decode cX0_markWays 9 = .ok (.istore 4, 2) := by decide +kernel
theorem dX0_markWays_11 : decode cX0_markWays 11 = .ok (.iconst 0, 1) := by decide +kernel
theorem dX0_markWays_12 : decode cX0_markWays 12 = .ok (.istore 5, 2) := by decide +kernel
theorem dX0_markWays_14 : decode cX0_markWays 14 = .ok (.iload_n 3, 1) := by decide +kernel
theorem dX0_markWays_15 : decode cX0_markWays 15 = .ok (.istore 6, 2) := by decide +kernel
theorem dX0_markWays_17 : decode cX0_markWays 17 = .ok (.iconst 0, 1) := by decide +kernel
theorem dX0_markWays_18 : decode cX0_markWays 18 = .ok (.istore 7, 2) := by decide +kernel
theorem dX0_markWays_20 : decode cX0_markWays 20 = .ok (.iload 7, 2) := by decide +kernel
theorem dX0_markWays_22 : decode cX0_markWays 22 = .ok (.aload_n 0, 1) := by decide +kernel
theorem dX0_markWays_23 : decode cX0_markWays 23 = .ok (.getfield 52, 3) := by decide +kernel
theorem dX0_markWays_26 : decode cX0_markWays 26 = .ok (.arraylength, 1) := by decide +kernel
theorem dX0_markWays_27 : decode cX0_markWays 27 = .ok (.if_icmp .ge 63, 3) := by decide +kernel
theorem dX0_markWays_30 : decode cX0_markWays 30 = .ok (.iload 4, 2) := by decide +kernel
theorem dX0_markWays_32 : decode cX0_markWays 32 = .ok (.iload 6, 2) := by decide +kernel
theorem dX0_markWays_34 : decode cX0_markWays 34 = .ok (.ior, 1) := by decide +kernel
theorem dX0_markWays_35 : decode cX0_markWays 35 = .ok (.istore 8, 2) := by decide +kernel
theorem dX0_markWays_37 : decode cX0_markWays 37 = .ok (.iload 8, 2) := by decide +kernel
theorem dX0_markWays_39 : decode cX0_markWays 39 = .ok (.aload_n 0, 1) := by decide +kernel
theorem dX0_markWays_40 : decode cX0_markWays 40 = .ok (.getfield 52, 3) := by decide +kernel
theorem dX0_markWays_43 : decode cX0_markWays 43 = .ok (.arraylength, 1) := by decide +kernel
theorem dX0_markWays_44 : decode cX0_markWays 44 = .ok (.if_icmp .ge 24, 3) := by decide +kernel
theorem dX0_markWays_47 : decode cX0_markWays 47 = .ok (.aload_n 0, 1) := by decide +kernel
theorem dX0_markWays_48 : decode cX0_markWays 48 = .ok (.getfield 52, 3) := by decide +kernel
theorem dX0_markWays_51 : decode cX0_markWays 51 = .ok (.iload 8, 2) := by decide +kernel
theorem dX0_markWays_53 : decode cX0_markWays 53 = .ok (.iaload, 1) := by decide +kernel
theorem dX0_markWays_54 : decode cX0_markWays 54 = .ok (.ifCond .ne 14, 3) := by decide +kernel
theorem dX0_markWays_57 : decode cX0_markWays 57 = .ok (.aload_n 0, 1) := by decide +kernel
theorem dX0_markWays_58 : decode cX0_markWays 58 = .ok (.getfield 52, 3) := by decide +kernel
theorem dX0_markWays_61 : decode cX0_markWays 61 = .ok (.iload 8, 2) := by decide +kernel
theorem dX0_markWays_63 : decode cX0_markWays 63 = .ok (.iconst 1, 1) := by decide +kernel
theorem dX0_markWays_64 : decode cX0_markWays 64 = .ok (.iastore, 1) := by decide +kernel
theorem dX0_markWays_65 : decode cX0_markWays 65 = .ok (.iinc 5 1, 3) := by decide +kernel
theorem dX0_markWays_68 : decode cX0_markWays 68 = .ok (.iload 6, 2) := by decide +kernel
theorem dX0_markWays_70 : decode cX0_markWays 70 = .ok (.ifCond .ne 6, 3) := by decide +kernel
theorem dX0_markWays_73 : decode cX0_markWays 73 = .ok (.iload 5, 2) := by decide +kernel
theorem dX0_markWays_75 : decode cX0_markWays 75 = .ok (.ireturn, 1) := by decide +kernel
theorem dX0_markWays_76 : decode cX0_markWays 76 = .ok (.iload 6, 2) := by decide +kernel
theorem dX0_markWays_78 : decode cX0_markWays 78 = .ok (.iconst 1, 1) := by decide +kernel
theorem dX0_markWays_79 : decode cX0_markWays 79 = .ok (.isub, 1) := by decide +kernel
theorem dX0_markWays_80 : decode cX0_markWays 80 = .ok (.iload_n 3, 1) := by decide +kernel
theorem dX0_markWays_81 : decode cX0_markWays 81 = .ok (.iand, 1) := by decide +kernel
theorem dX0_markWays_82 : decode cX0_markWays 82 = .ok (.istore 6, 2) := by decide +kernel
theorem dX0_markWays_84 : decode cX0_markWays 84 = .ok (.iinc 7 1, 3) := by decide +kernel
theorem dX0_markWays_87 : decode cX0_markWays 87 = .ok (.goto (-67), 3) := by decide +kernel
theorem dX0_markWays_90 : decode cX0_markWays 90 = .ok (.iload 5, 2) := by decide +kernel
theorem dX0_markWays_92 : decode cX0_markWays 92 = .ok (.ireturn, 1) := by decide +kernel
theorem dX0_findQuestion_0 : decode cX0_findQuestion 0 = .ok (.aload_n 0, 1) := by decide +kernel
theorem dX0_findQuestion_1 : decode cX0_findQuestion 1 = .ok (.iconst (-1), 1) := by decide +kernel
theorem dX0_findQuestion_2 : decode cX0_findQuestion 2 = .ok (.putfield 21, 3) := by decide +kernel
theorem dX0_findQuestion_5 : decode cX0_findQuestion 5 = .ok (.aload_n 0, 1) := by decide +kernel
theorem dX0_findQuestion_6 : decode cX0_findQuestion 6 = .ok (.aload_n 0, 1) := by decide +kernel
theorem dX0_findQuestion_7 : decode cX0_findQuestion 7 = .ok (.invokevirtual 116, 3) := by decide +kernel
theorem dX0_findQuestion_10 : decode cX0_findQuestion 10 = .ok (.putfield 24, 3) := by decide +kernel
theorem dX0_findQuestion_13 : decode cX0_findQuestion 13 = .ok (.iconst 1, 1) := by decide +kernel
theorem dX0_findQuestion_14 : decode cX0_findQuestion 14 = .ok (.istore_n 1, 1) := by decide +kernel
theorem dX0_findQuestion_15 : decode cX0_findQuestion 15 = .ok (.iload_n 1, 1) := by decide +kernel
theorem dX0_findQuestion_16 : decode cX0_findQuestion 16 = .ok (.bipush 30, 2) := by decide +kernel
theorem dX0_findQuestion_18 : decode cX0_findQuestion 18 = .ok (.if_icmp .gt 37, 3) := by decide +kernel
theorem dX0_findQuestion_21 : decode cX0_findQuestion 21 = .ok (.aload_n 0, 1) := by decide +kernel
theorem dX0_findQuestion_22 : decode cX0_findQuestion 22 = .ok (.iload_n 1, 1) := by decide +kernel
theorem dX0_findQuestion_23 : decode cX0_findQuestion 23 = .ok (.aload_n 0, 1) := by decide +kernel
theorem dX0_findQuestion_24 : decode cX0_findQuestion 24 = .ok (.getfield 24, 3) := by decide +kernel
theorem dX0_findQuestion_27 : decode cX0_findQuestion 27 = .ok (.invokevirtual 120, 3) := by decide +kernel
theorem dX0_findQuestion_30 : decode cX0_findQuestion 30 = .ok (.istore_n 2, 1) := by decide +kernel
theorem dX0_findQuestion_31 : decode cX0_findQuestion 31 = .ok (.iload_n 2, 1) := by decide +kernel
theorem dX0_findQuestion_32 : decode cX0_findQuestion 32 = .ok (.aload_n 0, 1) := by decide +kernel
theorem dX0_findQuestion_33 : decode cX0_findQuestion 33 = .ok (.getfield 24, 3) := by decide +kernel
theorem dX0_findQuestion_36 : decode cX0_findQuestion 36 = .ok (.if_icmp .ge 13, 3) := by decide +kernel
theorem dX0_findQuestion_39 : decode cX0_findQuestion 39 = .ok (.aload_n 0, 1) := by decide +kernel
theorem dX0_findQuestion_40 : decode cX0_findQuestion 40 = .ok (.iload_n 2, 1) := by decide +kernel
theorem dX0_findQuestion_41 : decode cX0_findQuestion 41 = .ok (.putfield 24, 3) := by decide +kernel
theorem dX0_findQuestion_44 : decode cX0_findQuestion 44 = .ok (.aload_n 0, 1) := by decide +kernel
theorem dX0_findQuestion_45 : decode cX0_findQuestion 45 = .ok (.iload_n 1, 1) := by decide +kernel
theorem dX0_findQuestion_46 : decode cX0_findQuestion 46 = .ok (.putfield 21, 3) := by decide +kernel
theorem dX0_findQuestion_49 : decode cX0_findQuestion 49 = .ok (.iinc 1 1, 3) := by decide +kernel
theorem dX0_findQuestion_52 : decode cX0_findQuestion 52 = .ok (.goto (-37), 3) := by decide +kernel
theorem dX0_findQuestion_55 : decode cX0_findQuestion 55 = .ok (.return_, 1) := by decide +kernel
theorem dX0_worstAfter_0 : decode cX0_worstAfter 0 = .ok (.aload_n 0, 1) := by decide +kernel
theorem dX0_worstAfter_1 : decode cX0_worstAfter 1 = .ok (.getfield 49, 3) := by decide +kernel
theorem dX0_worstAfter_4 : decode cX0_worstAfter 4 = .ok (.iconst 0, 1) := by decide +kernel
theorem dX0_worstAfter_5 : decode cX0_worstAfter 5 = .ok (.invokestatic 94, 3) := by decide +kernel
theorem dX0_worstAfter_8 : decode cX0_worstAfter 8 = .ok (.iconst 0, 1) := by decide +kernel
theorem dX0_worstAfter_9 : decode cX0_worstAfter 9 = .ok (.istore_n 3, 1) := by decide +kernel
theorem dX0_worstAfter_10 : decode cX0_worstAfter 10 = .ok (.iconst 0, 1) := by decide +kernel
theorem dX0_worstAfter_11 : decode cX0_worstAfter 11 = .ok (.istore 4, 2) := by decide +kernel
theorem dX0_worstAfter_13 : decode cX0_worstAfter 13 = .ok (.iload 4, 2) := by decide +kernel
theorem dX0_worstAfter_15 : decode cX0_worstAfter 15 = .ok (.bipush 30, 2) := by decide +kernel
theorem dX0_worstAfter_17 : decode cX0_worstAfter 17 = .ok (.if_icmp .gt 83, 3) := by decide +kernel
theorem dX0_worstAfter_20 : decode cX0_worstAfter 20 = .ok (.iload_n 3, 1) := by decide +kernel
theorem dX0_worstAfter_21 : decode cX0_worstAfter 21 = .ok (.iload_n 2, 1) := by decide +kernel
theorem dX0_worstAfter_22 : decode cX0_worstAfter 22 = .ok (.if_icmp .ge 78, 3) := by decide +kernel
theorem dX0_worstAfter_25 : decode cX0_worstAfter 25 = .ok (.iconst 1, 1) := by decide +kernel
theorem dX0_worstAfter_26 : decode cX0_worstAfter 26 = .ok (.iload_n 1, 1) := by decide +kernel
theorem dX0_worstAfter_27 : decode cX0_worstAfter 27 = .ok (.iload 4, 2) := by decide +kernel
theorem dX0_worstAfter_29 : decode cX0_worstAfter 29 = .ok (.iadd, 1) := by decide +kernel
theorem dX0_worstAfter_30 : decode cX0_worstAfter 30 = .ok (.invokestatic 85, 3) := by decide +kernel
theorem dX0_worstAfter_33 : decode cX0_worstAfter 33 = .ok (.istore 5, 2) := by decide +kernel
theorem dX0_worstAfter_35 : decode cX0_worstAfter 35 = .ok (.aload_n 0, 1) := by decide +kernel
theorem dX0_worstAfter_36 : decode cX0_worstAfter 36 = .ok (.getfield 37, 3) := by decide +kernel
theorem dX0_worstAfter_39 : decode cX0_worstAfter 39 = .ok (.iload 4, 2) := by decide +kernel
theorem dX0_worstAfter_41 : decode cX0_worstAfter 41 = .ok (.iaload, 1) := by decide +kernel
theorem dX0_worstAfter_42 : decode cX0_worstAfter 42 = .ok (.istore 6, 2) := by decide +kernel
theorem dX0_worstAfter_44 : decode cX0_worstAfter 44 = .ok (.iload 6, 2) := by decide +kernel
theorem dX0_worstAfter_46 : decode cX0_worstAfter 46 = .ok (.aload_n 0, 1) := by decide +kernel
theorem dX0_worstAfter_47 : decode cX0_worstAfter 47 = .ok (.getfield 40, 3) := by decide +kernel
theorem dX0_worstAfter_50 : decode cX0_worstAfter 50 = .ok (.iload 4, 2) := by decide +kernel
theorem dX0_worstAfter_52 : decode cX0_worstAfter 52 = .ok (.iaload, 1) := by decide +kernel
theorem dX0_worstAfter_53 : decode cX0_worstAfter 53 = .ok (.if_icmp .gt 41, 3) := by decide +kernel
theorem dX0_worstAfter_56 : decode cX0_worstAfter 56 = .ok (.iload_n 1, 1) := by decide +kernel
theorem dX0_worstAfter_57 : decode cX0_worstAfter 57 = .ok (.iload 6, 2) := by decide +kernel
theorem dX0_worstAfter_59 : decode cX0_worstAfter 59 = .ok (.imul, 1) := by decide +kernel
theorem dX0_worstAfter_60 : decode cX0_worstAfter 60 = .ok (.iload 5, 2) := by decide +kernel
theorem dX0_worstAfter_62 : decode cX0_worstAfter 62 = .ok (.idiv, 1) := by decide +kernel
theorem dX0_worstAfter_63 : decode cX0_worstAfter 63 = .ok (.istore 7, 2) := by decide +kernel
theorem dX0_worstAfter_65 : decode cX0_worstAfter 65 = .ok (.aload_n 0, 1) := by decide +kernel
theorem dX0_worstAfter_66 : decode cX0_worstAfter 66 = .ok (.getfield 49, 3) := by decide +kernel
theorem dX0_worstAfter_69 : decode cX0_worstAfter 69 = .ok (.iload 7, 2) := by decide +kernel
theorem dX0_worstAfter_71 : decode cX0_worstAfter 71 = .ok (.dup2, 1) := by decide +kernel
theorem dX0_worstAfter_72 : decode cX0_worstAfter 72 = .ok (.iaload, 1) := by decide +kernel
theorem dX0_worstAfter_73 : decode cX0_worstAfter 73 = .ok (.iconst 1, 1) := by decide +kernel
theorem dX0_worstAfter_74 : decode cX0_worstAfter 74 = .ok (.iadd, 1) := by decide +kernel
theorem dX0_worstAfter_75 : decode cX0_worstAfter 75 = .ok (.iastore, 1) := by decide +kernel
theorem dX0_worstAfter_76 : decode cX0_worstAfter 76 = .ok (.iload_n 3, 1) := by decide +kernel
theorem dX0_worstAfter_77 : decode cX0_worstAfter 77 = .ok (.aload_n 0, 1) := by decide +kernel
theorem dX0_worstAfter_78 : decode cX0_worstAfter 78 = .ok (.getfield 49, 3) := by decide +kernel
theorem dX0_worstAfter_81 : decode cX0_worstAfter 81 = .ok (.iload 7, 2) := by decide +kernel
theorem dX0_worstAfter_83 : decode cX0_worstAfter 83 = .ok (.iaload, 1) := by decide +kernel
theorem dX0_worstAfter_84 : decode cX0_worstAfter 84 = .ok (.invokestatic 85, 3) := by decide +kernel
theorem dX0_worstAfter_87 : decode cX0_worstAfter 87 = .ok (.istore_n 3, 1) := by decide +kernel
theorem dX0_worstAfter_88 : decode cX0_worstAfter 88 = .ok (.iinc 6 1, 3) := by decide +kernel
theorem dX0_worstAfter_91 : decode cX0_worstAfter 91 = .ok (.goto (-47), 3) := by decide +kernel
theorem dX0_worstAfter_94 : decode cX0_worstAfter 94 = .ok (.iinc 4 1, 3) := by decide +kernel
theorem dX0_worstAfter_97 : decode cX0_worstAfter 97 = .ok (.goto (-84), 3) := by decide +kernel
theorem dX0_worstAfter_100 : decode cX0_worstAfter 100 = .ok (.iload_n 3, 1) := by decide +kernel
theorem dX0_worstAfter_101 : decode cX0_worstAfter 101 = .ok (.ireturn, 1) := by decide +kernel
theorem dX0_solveSteps_0 : decode cX0_solveSteps 0 = .ok (.aload_n 0, 1) := by decide +kernel
theorem dX0_solveSteps_1 : decode cX0_solveSteps 1 = .ok (.invokevirtual 123, 3) := by decide +kernel
theorem dX0_solveSteps_4 : decode cX0_solveSteps 4 = .ok (.lstore_n 2, 1) := by decide +kernel
theorem dX0_solveSteps_5 : decode cX0_solveSteps 5 = .ok (.aload_n 1, 1) := by decide +kernel
theorem dX0_solveSteps_6 : decode cX0_solveSteps 6 = .ok (.aload_n 0, 1) := by decide +kernel
theorem dX0_solveSteps_7 : decode cX0_solveSteps 7 = .ok (.getfield 34, 3) := by decide +kernel
theorem dX0_solveSteps_10 : decode cX0_solveSteps 10 = .ok (.iconst 0, 1) := by decide +kernel
theorem dX0_solveSteps_11 : decode cX0_solveSteps 11 = .ok (.iaload, 1) := by decide +kernel
theorem dX0_solveSteps_12 : decode cX0_solveSteps 12 = .ok (.i2l, 1) := by decide +kernel
theorem dX0_solveSteps_13 : decode cX0_solveSteps 13 = .ok (.aload_n 0, 1) := by decide +kernel
theorem dX0_solveSteps_14 : decode cX0_solveSteps 14 = .ok (.getfield 34, 3) := by decide +kernel
theorem dX0_solveSteps_17 : decode cX0_solveSteps 17 = .ok (.iconst 1, 1) := by decide +kernel
theorem dX0_solveSteps_18 : decode cX0_solveSteps 18 = .ok (.iaload, 1) := by decide +kernel
theorem dX0_solveSteps_19 : decode cX0_solveSteps 19 = .ok (.i2l, 1) := by decide +kernel
theorem dX0_solveSteps_20 : decode cX0_solveSteps 20 = .ok (.lmul, 1) := by decide +kernel
theorem dX0_solveSteps_21 : decode cX0_solveSteps 21 = .ok (.aload_n 0, 1) := by decide +kernel
theorem dX0_solveSteps_22 : decode cX0_solveSteps 22 = .ok (.getfield 27, 3) := by decide +kernel
theorem dX0_solveSteps_25 : decode cX0_solveSteps 25 = .ok (.iconst 1, 1) := by decide +kernel
theorem dX0_solveSteps_26 : decode cX0_solveSteps 26 = .ok (.iaload, 1) := by decide +kernel
theorem dX0_solveSteps_27 : decode cX0_solveSteps 27 = .ok (.aload_n 0, 1) := by decide +kernel
theorem dX0_solveSteps_28 : decode cX0_solveSteps 28 = .ok (.getfield 31, 3) := by decide +kernel
theorem dX0_solveSteps_31 : decode cX0_solveSteps 31 = .ok (.iconst 0, 1) := by decide +kernel
theorem dX0_solveSteps_32 : decode cX0_solveSteps 32 = .ok (.iaload, 1) := by decide +kernel
theorem dX0_solveSteps_33 : decode cX0_solveSteps 33 = .ok (.imul, 1) := by decide +kernel
theorem dX0_solveSteps_34 : decode cX0_solveSteps 34 = .ok (.aload_n 0, 1) := by decide +kernel
theorem dX0_solveSteps_35 : decode cX0_solveSteps 35 = .ok (.getfield 27, 3) := by decide +kernel
theorem dX0_solveSteps_38 : decode cX0_solveSteps 38 = .ok (.iconst 0, 1) := by decide +kernel
theorem dX0_solveSteps_39 : decode cX0_solveSteps 39 = .ok (.iaload, 1) := by decide +kernel
theorem dX0_solveSteps_40 : decode cX0_solveSteps 40 = .ok (.aload_n 0, 1) := by decide +kernel
theorem dX0_solveSteps_41 : decode cX0_solveSteps 41 = .ok (.getfield 31, 3) := by decide +kernel
theorem dX0_solveSteps_44 : decode cX0_solveSteps 44 = .ok (.iconst 1, 1) := by decide +kernel
theorem dX0_solveSteps_45 : decode cX0_solveSteps 45 = .ok (.iaload, 1) := by decide +kernel
theorem dX0_solveSteps_46 : decode cX0_solveSteps 46 = .ok (.imul, 1) := by decide +kernel
theorem dX0_solveSteps_47 : decode cX0_solveSteps 47 = .ok (.isub, 1) := by decide +kernel
theorem dX0_solveSteps_48 : decode cX0_solveSteps 48 = .ok (.i2l, 1) := by decide +kernel
theorem dX0_solveSteps_49 : decode cX0_solveSteps 49 = .ok (.lmul, 1) := by decide +kernel
theorem dX0_solveSteps_50 : decode cX0_solveSteps 50 = .ok (.lload_n 2, 1) := by decide +kernel
theorem dX0_solveSteps_51 : decode cX0_solveSteps 51 = .ok (.invokevirtual 127, 3) := by decide +kernel
theorem dX0_solveSteps_54 : decode cX0_solveSteps 54 = .ok (.lload_n 2, 1) := by decide +kernel
theorem dX0_solveSteps_55 : decode cX0_solveSteps 55 = .ok (.lconst 0, 1) := by decide +kernel
theorem dX0_solveSteps_56 : decode cX0_solveSteps 56 = .ok (.lcmp, 1) := by decide +kernel
theorem dX0_solveSteps_57 : decode cX0_solveSteps 57 = .ok (.ifCond .eq 7, 3) := by decide +kernel
theorem dX0_solveSteps_60 : decode cX0_solveSteps 60 = .ok (.iconst 1, 1) := by decide +kernel
theorem dX0_solveSteps_61 : decode cX0_solveSteps 61 = .ok (.goto 4, 3) := by decide +kernel
theorem dX0_solveSteps_64 : decode cX0_solveSteps 64 = .ok (.iconst 0, 1) := by decide +kernel
theorem dX0_solveSteps_65 : decode cX0_solveSteps 65 = .ok (.ireturn, 1) := by decide +kernel
theorem dX0_solveSpeed_0 : decode cX0_solveSpeed 0 = .ok (.aload_n 0, 1) := by decide +kernel
theorem dX0_solveSpeed_1 : decode cX0_solveSpeed 1 = .ok (.invokevirtual 123, 3) := by decide +kernel
theorem dX0_solveSpeed_4 : decode cX0_solveSpeed 4 = .ok (.lstore_n 2, 1) := by decide +kernel
theorem dX0_solveSpeed_5 : decode cX0_solveSpeed 5 = .ok (.aload_n 1, 1) := by decide +kernel
theorem dX0_solveSpeed_6 : decode cX0_solveSpeed 6 = .ok (.aload_n 0, 1) := by decide +kernel
theorem dX0_solveSpeed_7 : decode cX0_solveSpeed 7 = .ok (.getfield 27, 3) := by decide +kernel
theorem dX0_solveSpeed_10 : decode cX0_solveSpeed 10 = .ok (.iconst 0, 1) := by decide +kernel
theorem dX0_solveSpeed_11 : decode cX0_solveSpeed 11 = .ok (.iaload, 1) := by decide +kernel
theorem dX0_solveSpeed_12 : decode cX0_solveSpeed 12 = .ok (.i2l, 1) := by decide +kernel
theorem dX0_solveSpeed_13 : decode cX0_solveSpeed 13 = .ok (.aload_n 0, 1) := by decide +kernel
theorem dX0_solveSpeed_14 : decode cX0_solveSpeed 14 = .ok (.getfield 27, 3) := by decide +kernel
theorem dX0_solveSpeed_17 : decode cX0_solveSpeed 17 = .ok (.iconst 1, 1) := by decide +kernel
theorem dX0_solveSpeed_18 : decode cX0_solveSpeed 18 = .ok (.iaload, 1) := by decide +kernel
theorem dX0_solveSpeed_19 : decode cX0_solveSpeed 19 = .ok (.i2l, 1) := by decide +kernel
theorem dX0_solveSpeed_20 : decode cX0_solveSpeed 20 = .ok (.lmul, 1) := by decide +kernel
theorem dX0_solveSpeed_21 : decode cX0_solveSpeed 21 = .ok (.aload_n 0, 1) := by decide +kernel
theorem dX0_solveSpeed_22 : decode cX0_solveSpeed 22 = .ok (.getfield 34, 3) := by decide +kernel
theorem dX0_solveSpeed_25 : decode cX0_solveSpeed 25 = .ok (.iconst 1, 1) := by decide +kernel
theorem dX0_solveSpeed_26 : decode cX0_solveSpeed 26 = .ok (.iaload, 1) := by decide +kernel
theorem dX0_solveSpeed_27 : decode cX0_solveSpeed 27 = .ok (.aload_n 0, 1) := by decide +kernel
theorem dX0_solveSpeed_28 : decode cX0_solveSpeed 28 = .ok (.getfield 34, 3) := by decide +kernel
theorem dX0_solveSpeed_31 : decode cX0_solveSpeed 31 = .ok (.iconst 0, 1) := by decide +kernel
theorem dX0_solveSpeed_32 : decode cX0_solveSpeed 32 = .ok (.iaload, 1) := by decide +kernel
theorem dX0_solveSpeed_33 : decode cX0_solveSpeed 33 = .ok (.isub, 1) := by decide +kernel
theorem dX0_solveSpeed_34 : decode cX0_solveSpeed 34 = .ok (.i2l, 1) := by decide +kernel
theorem dX0_solveSpeed_35 : decode cX0_solveSpeed 35 = .ok (.lmul, 1) := by decide +kernel
theorem dX0_solveSpeed_36 : decode cX0_solveSpeed 36 = .ok (.lload_n 2, 1) := by decide +kernel
theorem dX0_solveSpeed_37 : decode cX0_solveSpeed 37 = .ok (.invokevirtual 127, 3) := by decide +kernel
theorem dX0_solveSpeed_40 : decode cX0_solveSpeed 40 = .ok (.lload_n 2, 1) := by decide +kernel
theorem dX0_solveSpeed_41 : decode cX0_solveSpeed 41 = .ok (.lconst 0, 1) := by decide +kernel
theorem dX0_solveSpeed_42 : decode cX0_solveSpeed 42 = .ok (.lcmp, 1) := by decide +kernel
theorem dX0_solveSpeed_43 : decode cX0_solveSpeed 43 = .ok (.ifCond .eq 7, 3) := by decide +kernel
theorem dX0_solveSpeed_46 : decode cX0_solveSpeed 46 = .ok (.iconst 1, 1) := by decide +kernel
theorem dX0_solveSpeed_47 : decode cX0_solveSpeed 47 = .ok (.goto 4, 3) := by decide +kernel
theorem dX0_solveSpeed_50 : decode cX0_solveSpeed 50 = .ok (.iconst 0, 1) := by decide +kernel
theorem dX0_solveSpeed_51 : decode cX0_solveSpeed 51 = .ok (.ireturn, 1) := by decide +kernel
theorem dX0_divisor_0 : decode cX0_divisor 0 = .ok (.aload_n 0, 1) := by decide +kernel
theorem dX0_divisor_1 : decode cX0_divisor 1 = .ok (.getfield 34, 3) := by decide +kernel
theorem dX0_divisor_4 : decode cX0_divisor 4 = .ok (.iconst 0, 1) := by decide +kernel
theorem dX0_divisor_5 : decode cX0_divisor 5 = .ok (.iaload, 1) := by decide +kernel
theorem dX0_divisor_6 : decode cX0_divisor 6 = .ok (.i2l, 1) := by decide +kernel
theorem dX0_divisor_7 : decode cX0_divisor 7 = .ok (.aload_n 0, 1) := by decide +kernel
theorem dX0_divisor_8 : decode cX0_divisor 8 = .ok (.getfield 31, 3) := by decide +kernel
theorem dX0_divisor_11 : decode cX0_divisor 11 = .ok (.iconst 0, 1) := by decide +kernel
theorem dX0_divisor_12 : decode cX0_divisor 12 = .ok (.iaload, 1) := by decide +kernel
theorem dX0_divisor_13 : decode cX0_divisor 13 = .ok (.i2l, 1) := by decide +kernel
theorem dX0_divisor_14 : decode cX0_divisor 14 = .ok (.lmul, 1) := by decide +kernel
theorem dX0_divisor_15 : decode cX0_divisor 15 = .ok (.aload_n 0, 1) := by decide +kernel
theorem dX0_divisor_16 : decode cX0_divisor 16 = .ok (.getfield 27, 3) := by decide +kernel
theorem dX0_divisor_19 : decode cX0_divisor 19 = .ok (.iconst 1, 1) := by decide +kernel
theorem dX0_divisor_20 : decode cX0_divisor 20 = .ok (.iaload, 1) := by decide +kernel
theorem dX0_divisor_21 : decode cX0_divisor 21 = .ok (.i2l, 1) := by decide +kernel
theorem dX0_divisor_22 : decode cX0_divisor 22 = .ok (.lmul, 1) := by decide +kernel
theorem dX0_divisor_23 : decode cX0_divisor 23 = .ok (.aload_n 0, 1) := by decide +kernel
theorem dX0_divisor_24 : decode cX0_divisor 24 = .ok (.getfield 34, 3) := by decide +kernel
theorem dX0_divisor_27 : decode cX0_divisor 27 = .ok (.iconst 1, 1) := by decide +kernel
theorem dX0_divisor_28 : decode cX0_divisor 28 = .ok (.iaload, 1) := by decide +kernel
theorem dX0_divisor_29 : decode cX0_divisor 29 = .ok (.i2l, 1) := by decide +kernel
theorem dX0_divisor_30 : decode cX0_divisor 30 = .ok (.aload_n 0, 1) := by decide +kernel
theorem dX0_divisor_31 : decode cX0_divisor 31 = .ok (.getfield 31, 3) := by decide +kernel
theorem dX0_divisor_34 : decode cX0_divisor 34 = .ok (.iconst 1, 1) := by decide +kernel
theorem dX0_divisor_35 : decode cX0_divisor 35 = .ok (.iaload, 1) := by decide +kernel
theorem dX0_divisor_36 : decode cX0_divisor 36 = .ok (.i2l, 1) := by decide +kernel
theorem dX0_divisor_37 : decode cX0_divisor 37 = .ok (.lmul, 1) := by decide +kernel
theorem dX0_divisor_38 : decode cX0_divisor 38 = .ok (.aload_n 0, 1) := by decide +kernel
theorem dX0_divisor_39 : decode cX0_divisor 39 = .ok (.getfield 27, 3) := by decide +kernel
theorem dX0_divisor_42 : decode cX0_divisor 42 = .ok (.iconst 0, 1) := by decide +kernel
theorem dX0_divisor_43 : decode cX0_divisor 43 = .ok (.iaload, 1) := by decide +kernel
theorem dX0_divisor_44 : decode cX0_divisor 44 = .ok (.i2l, 1) := by decide +kernel
theorem dX0_divisor_45 : decode cX0_divisor 45 = .ok (.lmul, 1) := by decide +kernel
theorem dX0_divisor_46 : decode cX0_divisor 46 = .ok (.lsub, 1) := by decide +kernel
theorem dX0_divisor_47 : decode cX0_divisor 47 = .ok (.lreturn, 1) := by decide +kernel
theorem dX1_init_0 : decode cX1_init 0 = .ok (.aload_n 0, 1) := by decide +kernel
theorem dX1_init_1 : decode cX1_init 1 = .ok (.invokespecial 1, 3) := by decide +kernel
theorem dX1_init_4 : decode cX1_init 4 = .ok (.aload_n 0, 1) := by decide +kernel
theorem dX1_init_5 : decode cX1_init 5 = .ok (.lconst 0, 1) := by decide +kernel
theorem dX1_init_6 : decode cX1_init 6 = .ok (.putfield 7, 3) := by decide +kernel
theorem dX1_init_9 : decode cX1_init 9 = .ok (.aload_n 0, 1) := by decide +kernel
theorem dX1_init_10 : decode cX1_init 10 = .ok (.lconst 1, 1) := by decide +kernel
theorem dX1_init_11 : decode cX1_init 11 = .ok (.putfield 13, 3) := by decide +kernel
theorem dX1_init_14 : decode cX1_init 14 = .ok (.return_, 1) := by decide +kernel
theorem dX1_put_0 : decode cX1_put 0 = .ok (.lload_n 3, 1) := by decide +kernel
theorem dX1_put_1 : decode cX1_put 1 = .ok (.lstore 5, 2) := by decide +kernel
theorem dX1_put_3 : decode cX1_put 3 = .ok (.lload_n 1, 1) := by decide +kernel
theorem dX1_put_4 : decode cX1_put 4 = .ok (.lstore 7, 2) := by decide +kernel
theorem dX1_put_6 : decode cX1_put 6 = .ok (.iconst 0, 1) := by decide +kernel
theorem dX1_put_7 : decode cX1_put 7 = .ok (.istore 9, 2) := by decide +kernel
theorem dX1_put_9 : decode cX1_put 9 = .ok (.iload 9, 2) := by decide +kernel
theorem dX1_put_11 : decode cX1_put 11 = .ok (.sipush 200, 3) := by decide +kernel
theorem dX1_put_14 : decode cX1_put 14 = .ok (.if_icmp .ge 31, 3) := by decide +kernel
theorem dX1_put_17 : decode cX1_put 17 = .ok (.lload 7, 2) := by decide +kernel
theorem dX1_put_19 : decode cX1_put 19 = .ok (.lconst 0, 1) := by decide +kernel
theorem dX1_put_20 : decode cX1_put 20 = .ok (.lcmp, 1) := by decide +kernel
theorem dX1_put_21 : decode cX1_put 21 = .ok (.ifCond .eq 24, 3) := by decide +kernel
theorem dX1_put_24 : decode cX1_put 24 = .ok (.lload 5, 2) := by decide +kernel
theorem dX1_put_26 : decode cX1_put 26 = .ok (.lload 7, 2) := by decide +kernel
theorem dX1_put_28 : decode cX1_put 28 = .ok (.lrem, 1) := by decide +kernel
theorem dX1_put_29 : decode cX1_put 29 = .ok (.lstore 10, 2) := by decide +kernel
theorem dX1_put_31 : decode cX1_put 31 = .ok (.lload 7, 2) := by decide +kernel
theorem dX1_put_33 : decode cX1_put 33 = .ok (.lstore 5, 2) := by decide +kernel
theorem dX1_put_35 : decode cX1_put 35 = .ok (.lload 10, 2) := by decide +kernel
theorem dX1_put_37 : decode cX1_put 37 = .ok (.lstore 7, 2) := by decide +kernel
theorem dX1_put_39 : decode cX1_put 39 = .ok (.iinc 9 1, 3) := by decide +kernel
theorem dX1_put_42 : decode cX1_put 42 = .ok (.goto (-33), 3) := by decide +kernel
theorem dX1_put_45 : decode cX1_put 45 = .ok (.lload_n 3, 1) := by decide +kernel
theorem dX1_put_46 : decode cX1_put 46 = .ok (.lconst 0, 1) := by decide +kernel
theorem dX1_put_47 : decode cX1_put 47 = .ok (.lcmp, 1) := by decide +kernel
theorem dX1_put_48 : decode cX1_put 48 = .ok (.ifCond .eq 10, 3) := by decide +kernel
theorem dX1_put_51 : decode cX1_put 51 = .ok (.lload 5, 2) := by decide +kernel
theorem dX1_put_53 : decode cX1_put 53 = .ok (.lconst 0, 1) := by decide +kernel
theorem dX1_put_54 : decode cX1_put 54 = .ok (.lcmp, 1) := by decide +kernel
theorem dX1_put_55 : decode cX1_put 55 = .ok (.ifCond .ne 14, 3) := by decide +kernel
theorem dX1_put_58 : decode cX1_put 58 = .ok (.aload_n 0, 1) := by decide +kernel
theorem dX1_put_59 : decode cX1_put 59 = .ok (.lconst 0, 1) := by decide +kernel
theorem dX1_put_60 : decode cX1_put 60 = .ok (.putfield 7, 3) := by decide +kernel
theorem dX1_put_63 : decode cX1_put 63 = .ok (.aload_n 0, 1) := by decide +kernel
theorem dX1_put_64 : decode cX1_put 64 = .ok (.lconst 1, 1) := by decide +kernel
theorem dX1_put_65 : decode cX1_put 65 = .ok (.putfield 13, 3) := by decide +kernel
theorem dX1_put_68 : decode cX1_put 68 = .ok (.return_, 1) := by decide +kernel
theorem dX1_put_69 : decode cX1_put 69 = .ok (.aload_n 0, 1) := by decide +kernel
theorem dX1_put_70 : decode cX1_put 70 = .ok (.lload_n 1, 1) := by decide +kernel
theorem dX1_put_71 : decode cX1_put 71 = .ok (.lload 5, 2) := by decide +kernel
theorem dX1_put_73 : decode cX1_put 73 = .ok (.ldiv, 1) := by decide +kernel
theorem dX1_put_74 : decode cX1_put 74 = .ok (.putfield 7, 3) := by decide +kernel
theorem dX1_put_77 : decode cX1_put 77 = .ok (.aload_n 0, 1) := by decide +kernel
theorem dX1_put_78 : decode cX1_put 78 = .ok (.lload_n 3, 1) := by decide +kernel
theorem dX1_put_79 : decode cX1_put 79 = .ok (.lload 5, 2) := by decide +kernel
theorem dX1_put_81 : decode cX1_put 81 = .ok (.ldiv, 1) := by decide +kernel
theorem dX1_put_82 : decode cX1_put 82 = .ok (.putfield 13, 3) := by decide +kernel
theorem dX1_put_85 : decode cX1_put 85 = .ok (.aload_n 0, 1) := by decide +kernel
theorem dX1_put_86 : decode cX1_put 86 = .ok (.getfield 13, 3) := by decide +kernel
theorem dX1_put_89 : decode cX1_put 89 = .ok (.lconst 0, 1) := by decide +kernel
theorem dX1_put_90 : decode cX1_put 90 = .ok (.lcmp, 1) := by decide +kernel
theorem dX1_put_91 : decode cX1_put 91 = .ok (.ifCond .ge 21, 3) := by decide +kernel
theorem dX1_put_94 : decode cX1_put 94 = .ok (.aload_n 0, 1) := by decide +kernel
theorem dX1_put_95 : decode cX1_put 95 = .ok (.aload_n 0, 1) := by decide +kernel
theorem dX1_put_96 : decode cX1_put 96 = .ok (.getfield 7, 3) := by decide +kernel
theorem dX1_put_99 : decode cX1_put 99 = .ok (.lneg, 1) := by decide +kernel
theorem dX1_put_100 : decode cX1_put 100 = .ok (.putfield 7, 3) := by decide +kernel
theorem dX1_put_103 : decode cX1_put 103 = .ok (.aload_n 0, 1) := by decide +kernel
theorem dX1_put_104 : decode cX1_put 104 = .ok (.aload_n 0, 1) := by decide +kernel
theorem dX1_put_105 : decode cX1_put 105 = .ok (.getfield 13, 3) := by decide +kernel
theorem dX1_put_108 : decode cX1_put 108 = .ok (.lneg, 1) := by decide +kernel
theorem dX1_put_109 : decode cX1_put 109 = .ok (.putfield 13, 3) := by decide +kernel
theorem dX1_put_112 : decode cX1_put 112 = .ok (.return_, 1) := by decide +kernel
theorem dX1_take_0 : decode cX1_take 0 = .ok (.aload_n 0, 1) := by decide +kernel
theorem dX1_take_1 : decode cX1_take 1 = .ok (.aload_n 1, 1) := by decide +kernel
theorem dX1_take_2 : decode cX1_take 2 = .ok (.getfield 7, 3) := by decide +kernel
theorem dX1_take_5 : decode cX1_take 5 = .ok (.putfield 7, 3) := by decide +kernel
theorem dX1_take_8 : decode cX1_take 8 = .ok (.aload_n 0, 1) := by decide +kernel
theorem dX1_take_9 : decode cX1_take 9 = .ok (.aload_n 1, 1) := by decide +kernel
theorem dX1_take_10 : decode cX1_take 10 = .ok (.getfield 13, 3) := by decide +kernel
theorem dX1_take_13 : decode cX1_take 13 = .ok (.putfield 13, 3) := by decide +kernel
theorem dX1_take_16 : decode cX1_take 16 = .ok (.return_, 1) := by decide +kernel
theorem dX1_add_0 : decode cX1_add 0 = .ok (.aload_n 0, 1) := by decide +kernel
theorem dX1_add_1 : decode cX1_add 1 = .ok (.aload_n 0, 1) := by decide +kernel
theorem dX1_add_2 : decode cX1_add 2 = .ok (.getfield 7, 3) := by decide +kernel
theorem dX1_add_5 : decode cX1_add 5 = .ok (.lload_n 3, 1) := by decide +kernel
theorem dX1_add_6 : decode cX1_add 6 = .ok (.lmul, 1) := by decide +kernel
theorem dX1_add_7 : decode cX1_add 7 = .ok (.lload_n 1, 1) := by decide +kernel
theorem dX1_add_8 : decode cX1_add 8 = .ok (.aload_n 0, 1) := by decide +kernel
theorem dX1_add_9 : decode cX1_add 9 = .ok (.getfield 13, 3) := by decide +kernel
theorem dX1_add_12 : decode cX1_add 12 = .ok (.lmul, 1) := by decide +kernel
theorem dX1_add_13 : decode cX1_add 13 = .ok (.ladd, 1) := by decide +kernel
theorem dX1_add_14 : decode cX1_add 14 = .ok (.aload_n 0, 1) := by decide +kernel
theorem dX1_add_15 : decode cX1_add 15 = .ok (.getfield 13, 3) := by decide +kernel
theorem dX1_add_18 : decode cX1_add 18 = .ok (.lload_n 3, 1) := by decide +kernel
theorem dX1_add_19 : decode cX1_add 19 = .ok (.lmul, 1) := by decide +kernel
theorem dX1_add_20 : decode cX1_add 20 = .ok (.invokevirtual 16, 3) := by decide +kernel
theorem dX1_add_23 : decode cX1_add 23 = .ok (.return_, 1) := by decide +kernel
theorem dX1_against_0 : decode cX1_against 0 = .ok (.aload_n 0, 1) := by decide +kernel
theorem dX1_against_1 : decode cX1_against 1 = .ok (.getfield 7, 3) := by decide +kernel
theorem dX1_against_4 : decode cX1_against 4 = .ok (.lstore_n 2, 1) := by decide +kernel
theorem dX1_against_5 : decode cX1_against 5 = .ok (.aload_n 0, 1) := by decide +kernel
theorem dX1_against_6 : decode cX1_against 6 = .ok (.getfield 13, 3) := by decide +kernel
theorem dX1_against_9 : decode cX1_against 9 = .ok (.lstore 4, 2) := by decide +kernel
theorem dX1_against_11 : decode cX1_against 11 = .ok (.aload_n 1, 1) := by decide +kernel
theorem dX1_against_12 : decode cX1_against 12 = .ok (.getfield 7, 3) := by decide +kernel
theorem dX1_against_15 : decode cX1_against 15 = .ok (.lstore 6, 2) := by decide +kernel
theorem dX1_against_17 : decode cX1_against 17 = .ok (.aload_n 1, 1) := by decide +kernel
theorem dX1_against_18 : decode cX1_against 18 = .ok (.getfield 13, 3) := by decide +kernel
theorem dX1_against_21 : decode cX1_against 21 = .ok (.lstore 8, 2) := by decide +kernel
theorem dX1_against_23 : decode cX1_against 23 = .ok (.iconst 1, 1) := by decide +kernel
theorem dX1_against_24 : decode cX1_against 24 = .ok (.istore 10, 2) := by decide +kernel
theorem dX1_against_26 : decode cX1_against 26 = .ok (.iconst 0, 1) := by decide +kernel
theorem dX1_against_27 : decode cX1_against 27 = .ok (.istore 11, 2) := by decide +kernel
theorem dX1_against_29 : decode cX1_against 29 = .ok (.iload 11, 2) := by decide +kernel
theorem dX1_against_31 : decode cX1_against 31 = .ok (.sipush 200, 3) := by decide +kernel
theorem dX1_against_34 : decode cX1_against 34 = .ok (.if_icmp .ge 129, 3) := by decide +kernel
theorem dX1_against_37 : decode cX1_against 37 = .ok (.lload 4, 2) := by decide +kernel
theorem dX1_against_39 : decode cX1_against 39 = .ok (.lconst 0, 1) := by decide +kernel
theorem dX1_against_40 : decode cX1_against 40 = .ok (.lcmp, 1) := by decide +kernel
theorem dX1_against_41 : decode cX1_against 41 = .ok (.ifCond .eq 122, 3) := by decide +kernel
theorem dX1_against_44 : decode cX1_against 44 = .ok (.lload 8, 2) := by decide +kernel
theorem dX1_against_46 : decode cX1_against 46 = .ok (.lconst 0, 1) := by decide +kernel
theorem dX1_against_47 : decode cX1_against 47 = .ok (.lcmp, 1) := by decide +kernel
theorem dX1_against_48 : decode cX1_against 48 = .ok (.ifCond .eq 115, 3) := by decide +kernel
theorem dX1_against_51 : decode cX1_against 51 = .ok (.lload_n 2, 1) := by decide +kernel
theorem dX1_against_52 : decode cX1_against 52 = .ok (.lload 4, 2) := by decide +kernel
theorem dX1_against_54 : decode cX1_against 54 = .ok (.invokestatic 20, 3) := by decide +kernel
theorem dX1_against_57 : decode cX1_against 57 = .ok (.lstore 12, 2) := by decide +kernel
theorem dX1_against_59 : decode cX1_against 59 = .ok (.lload 6, 2) := by decide +kernel
theorem dX1_against_61 : decode cX1_against 61 = .ok (.lload 8, 2) := by decide +kernel
theorem dX1_against_63 : decode cX1_against 63 = .ok (.invokestatic 20, 3) := by decide +kernel
theorem dX1_against_66 : decode cX1_against 66 = .ok (.lstore 14, 2) := by decide +kernel
theorem dX1_against_68 : decode cX1_against 68 = .ok (.lload 12, 2) := by decide +kernel
theorem dX1_against_70 : decode cX1_against 70 = .ok (.lload 14, 2) := by decide +kernel
theorem dX1_against_72 : decode cX1_against 72 = .ok (.lcmp, 1) := by decide +kernel
theorem dX1_against_73 : decode cX1_against 73 = .ok (.ifCond .eq 20, 3) := by decide +kernel
theorem dX1_against_76 : decode cX1_against 76 = .ok (.lload 12, 2) := by decide +kernel
theorem dX1_against_78 : decode cX1_against 78 = .ok (.lload 14, 2) := by decide +kernel
theorem dX1_against_80 : decode cX1_against 80 = .ok (.lcmp, 1) := by decide +kernel
theorem dX1_against_81 : decode cX1_against 81 = .ok (.ifCond .ge 9, 3) := by decide +kernel
theorem dX1_against_84 : decode cX1_against 84 = .ok (.iload 10, 2) := by decide +kernel
theorem dX1_against_86 : decode cX1_against 86 = .ok (.ineg, 1) := by decide +kernel
theorem dX1_against_87 : decode cX1_against 87 = .ok (.goto 5, 3) := by decide +kernel
theorem dX1_against_90 : decode cX1_against 90 = .ok (.iload 10, 2) := by decide +kernel
theorem dX1_against_92 : decode cX1_against 92 = .ok (.ireturn, 1) := by decide +kernel
theorem dX1_against_93 : decode cX1_against 93 = .ok (.lload_n 2, 1) := by decide +kernel
theorem dX1_against_94 : decode cX1_against 94 = .ok (.lload 12, 2) := by decide +kernel
theorem dX1_against_96 : decode cX1_against 96 = .ok (.lload 4, 2) := by decide +kernel
theorem dX1_against_98 : decode cX1_against 98 = .ok (.lmul, 1) := by decide +kernel
theorem dX1_against_99 : decode cX1_against 99 = .ok (.lsub, 1) := by decide +kernel
theorem dX1_against_100 : decode cX1_against 100 = .ok (.lstore 16, 2) := by decide +kernel
theorem dX1_against_102 : decode cX1_against 102 = .ok (.lload 6, 2) := by decide +kernel
theorem dX1_against_104 : decode cX1_against 104 = .ok (.lload 14, 2) := by decide +kernel
theorem dX1_against_106 : decode cX1_against 106 = .ok (.lload 8, 2) := by decide +kernel
theorem dX1_against_108 : decode cX1_against 108 = .ok (.lmul, 1) := by decide +kernel
theorem dX1_against_109 : decode cX1_against 109 = .ok (.lsub, 1) := by decide +kernel
theorem dX1_against_110 : decode cX1_against 110 = .ok (.lstore 18, 2) := by decide +kernel
theorem dX1_against_112 : decode cX1_against 112 = .ok (.lload 16, 2) := by decide +kernel
theorem dX1_against_114 : decode cX1_against 114 = .ok (.lconst 0, 1) := by decide +kernel
theorem dX1_against_115 : decode cX1_against 115 = .ok (.lcmp, 1) := by decide +kernel
theorem dX1_against_116 : decode cX1_against 116 = .ok (.ifCond .eq 10, 3) := by decide +kernel
theorem dX1_against_119 : decode cX1_against 119 = .ok (.lload 18, 2) := by decide +kernel
theorem dX1_against_121 : decode cX1_against 121 = .ok (.lconst 0, 1) := by decide +kernel
theorem dX1_against_122 : decode cX1_against 122 = .ok (.lcmp, 1) := by decide +kernel
theorem dX1_against_123 : decode cX1_against 123 = .ok (.ifCond .ne 14, 3) := by decide +kernel
theorem dX1_against_126 : decode cX1_against 126 = .ok (.iload 10, 2) := by decide +kernel
theorem dX1_against_128 : decode cX1_against 128 = .ok (.lload 16, 2) := by decide +kernel
theorem dX1_against_130 : decode cX1_against 130 = .ok (.lload 18, 2) := by decide +kernel
theorem dX1_against_132 : decode cX1_against 132 = .ok (.invokestatic 26, 3) := by decide +kernel
theorem dX1_against_135 : decode cX1_against 135 = .ok (.imul, 1) := by decide +kernel
theorem dX1_against_136 : decode cX1_against 136 = .ok (.ireturn, 1) := by decide +kernel
theorem dX1_against_137 : decode cX1_against 137 = .ok (.lload 4, 2) := by decide +kernel
theorem dX1_against_139 : decode cX1_against 139 = .ok (.lstore_n 2, 1) := by decide +kernel
theorem dX1_against_140 : decode cX1_against 140 = .ok (.lload 16, 2) := by decide +kernel
theorem dX1_against_142 : decode cX1_against 142 = .ok (.lstore 4, 2) := by decide +kernel
theorem dX1_against_144 : decode cX1_against 144 = .ok (.lload 8, 2) := by decide +kernel
theorem dX1_against_146 : decode cX1_against 146 = .ok (.lstore 6, 2) := by decide +kernel
theorem dX1_against_148 : decode cX1_against 148 = .ok (.lload 18, 2) := by decide +kernel
theorem dX1_against_150 : decode cX1_against 150 = .ok (.lstore 8, 2) := by decide +kernel
theorem dX1_against_152 : decode cX1_against 152 = .ok (.iload 10, 2) := by decide +kernel
theorem dX1_against_154 : decode cX1_against 154 = .ok (.ineg, 1) := by decide +kernel
theorem dX1_against_155 : decode cX1_against 155 = .ok (.istore 10, 2) := by decide +kernel
theorem dX1_against_157 : decode cX1_against 157 = .ok (.iinc 11 1, 3) := by decide +kernel
theorem dX1_against_160 : decode cX1_against 160 = .ok (.goto (-131), 3) := by decide +kernel
theorem dX1_against_163 : decode cX1_against 163 = .ok (.iconst 0, 1) := by decide +kernel
theorem dX1_against_164 : decode cX1_against 164 = .ok (.ireturn, 1) := by decide +kernel
theorem dX1_isAbove_0 : decode cX1_isAbove 0 = .ok (.aload_n 0, 1) := by decide +kernel
theorem dX1_isAbove_1 : decode cX1_isAbove 1 = .ok (.getfield 7, 3) := by decide +kernel
theorem dX1_isAbove_4 : decode cX1_isAbove 4 = .ok (.lload_n 1, 1) := by decide +kernel
theorem dX1_isAbove_5 : decode cX1_isAbove 5 = .ok (.aload_n 0, 1) := by decide +kernel
theorem dX1_isAbove_6 : decode cX1_isAbove 6 = .ok (.getfield 13, 3) := by decide +kernel
theorem dX1_isAbove_9 : decode cX1_isAbove 9 = .ok (.lmul, 1) := by decide +kernel
theorem dX1_isAbove_10 : decode cX1_isAbove 10 = .ok (.lcmp, 1) := by decide +kernel
theorem dX1_isAbove_11 : decode cX1_isAbove 11 = .ok (.ifCond .le 7, 3) := by decide +kernel
theorem dX1_isAbove_14 : decode cX1_isAbove 14 = .ok (.iconst 1, 1) := by decide +kernel
theorem dX1_isAbove_15 : decode cX1_isAbove 15 = .ok (.goto 4, 3) := by decide +kernel
theorem dX1_isAbove_18 : decode cX1_isAbove 18 = .ok (.iconst 0, 1) := by decide +kernel
theorem dX1_isAbove_19 : decode cX1_isAbove 19 = .ok (.ireturn, 1) := by decide +kernel
theorem dX1_whole_0 : decode cX1_whole 0 = .ok (.aload_n 0, 1) := by decide +kernel
theorem dX1_whole_1 : decode cX1_whole 1 = .ok (.lconst 1, 1) := by decide +kernel
theorem dX1_whole_2 : decode cX1_whole 2 = .ok (.invokevirtual 32, 3) := by decide +kernel
theorem dX1_whole_5 : decode cX1_whole 5 = .ok (.lreturn, 1) := by decide +kernel
theorem dX1_wholeOf_0 : decode cX1_wholeOf 0 = .ok (.aload_n 0, 1) := by decide +kernel
theorem dX1_wholeOf_1 : decode cX1_wholeOf 1 = .ok (.getfield 13, 3) := by decide +kernel
theorem dX1_wholeOf_4 : decode cX1_wholeOf 4 = .ok (.lconst 0, 1) := by decide +kernel
theorem dX1_wholeOf_5 : decode cX1_wholeOf 5 = .ok (.lcmp, 1) := by decide +kernel
theorem dX1_wholeOf_6 : decode cX1_wholeOf 6 = .ok (.ifCond .ne 7, 3) := by decide +kernel
theorem dX1_wholeOf_9 : decode cX1_wholeOf 9 = .ok (.lconst 0, 1) := by decide +kernel
theorem dX1_wholeOf_10 : decode cX1_wholeOf 10 = .ok (.goto 16, 3) := by decide +kernel
theorem dX1_wholeOf_13 : decode cX1_wholeOf 13 = .ok (.lload_n 1, 1) := by decide +kernel
theorem dX1_wholeOf_14 : decode cX1_wholeOf 14 = .ok (.aload_n 0, 1) := by decide +kernel
theorem dX1_wholeOf_15 : decode cX1_wholeOf 15 = .ok (.getfield 7, 3) := by decide +kernel
theorem dX1_wholeOf_18 : decode cX1_wholeOf 18 = .ok (.lmul, 1) := by decide +kernel
theorem dX1_wholeOf_19 : decode cX1_wholeOf 19 = .ok (.aload_n 0, 1) := by decide +kernel
theorem dX1_wholeOf_20 : decode cX1_wholeOf 20 = .ok (.getfield 13, 3) := by decide +kernel
theorem dX1_wholeOf_23 : decode cX1_wholeOf 23 = .ok (.invokestatic 20, 3) := by decide +kernel
theorem dX1_wholeOf_26 : decode cX1_wholeOf 26 = .ok (.lreturn, 1) := by decide +kernel
theorem dX1_side_0 : decode cX1_side 0 = .ok (.iload_n 1, 1) := by decide +kernel
theorem dX1_side_1 : decode cX1_side 1 = .ok (.ifCond .ne 10, 3) := by decide +kernel
theorem dX1_side_4 : decode cX1_side 4 = .ok (.aload_n 0, 1) := by decide +kernel
theorem dX1_side_5 : decode cX1_side 5 = .ok (.getfield 7, 3) := by decide +kernel
theorem dX1_side_8 : decode cX1_side 8 = .ok (.goto 7, 3) := by decide +kernel
theorem dX1_side_11 : decode cX1_side 11 = .ok (.aload_n 0, 1) := by decide +kernel
theorem dX1_side_12 : decode cX1_side 12 = .ok (.getfield 13, 3) := by decide +kernel
theorem dX1_side_15 : decode cX1_side 15 = .ok (.lreturn, 1) := by decide +kernel
theorem dX2_init_0 : decode cX2_init 0 = .ok (.aload_n 0, 1) := by decide +kernel
theorem dX2_init_1 : decode cX2_init 1 = .ok (.invokespecial 3, 3) := by decide +kernel
theorem dX2_init_4 : decode cX2_init 4 = .ok (.aload_n 0, 1) := by decide +kernel
theorem dX2_init_5 : decode cX2_init 5 = .ok (.iconst 0, 1) := by decide +kernel
theorem dX2_init_6 : decode cX2_init 6 = .ok (.putfield 9, 3) := by decide +kernel
theorem dX2_init_9 : decode cX2_init 9 = .ok (.aload_n 0, 1) := by decide +kernel
theorem dX2_init_10 : decode cX2_init 10 = .ok (.iconst 0, 1) := by decide +kernel
theorem dX2_init_11 : decode cX2_init 11 = .ok (.putfield 15, 3) := by decide +kernel
theorem dX2_init_14 : decode cX2_init 14 = .ok (.aload_n 0, 1) := by decide +kernel
theorem dX2_init_15 : decode cX2_init 15 = .ok (.iconst 0, 1) := by decide +kernel
theorem dX2_init_16 : decode cX2_init 16 = .ok (.putfield 18, 3) := by decide +kernel
theorem dX2_init_19 : decode cX2_init 19 = .ok (.aload_n 0, 1) := by decide +kernel
theorem dX2_init_20 : decode cX2_init 20 = .ok (.iconst 4, 1) := by decide +kernel
theorem dX2_init_21 : decode cX2_init 21 = .ok (.newarray .int, 2) := by decide +kernel
theorem dX2_init_23 : decode cX2_init 23 = .ok (.putfield 21, 3) := by decide +kernel
theorem dX2_init_26 : decode cX2_init 26 = .ok (.aload_n 0, 1) := by decide +kernel
theorem dX2_init_27 : decode cX2_init 27 = .ok (.iconst 4, 1) := by decide +kernel
theorem dX2_init_28 : decode cX2_init 28 = .ok (.newarray .int, 2) := by decide +kernel
theorem dX2_init_30 : decode cX2_init 30 = .ok (.putfield 25, 3) := by decide +kernel
theorem dX2_init_33 : decode cX2_init 33 = .ok (.aload_n 0, 1) := by decide +kernel
theorem dX2_init_34 : decode cX2_init 34 = .ok (.iconst 0, 1) := by decide +kernel
theorem dX2_init_35 : decode cX2_init 35 = .ok (.putfield 28, 3) := by decide +kernel
theorem dX2_init_38 : decode cX2_init 38 = .ok (.aload_n 0, 1) := by decide +kernel
theorem dX2_init_39 : decode cX2_init 39 = .ok (.bipush 8, 2) := by decide +kernel
theorem dX2_init_41 : decode cX2_init 41 = .ok (.newarray .int, 2) := by decide +kernel
theorem dX2_init_43 : decode cX2_init 43 = .ok (.putfield 31, 3) := by decide +kernel
theorem dX2_init_46 : decode cX2_init 46 = .ok (.aload_n 0, 1) := by decide +kernel
theorem dX2_init_47 : decode cX2_init 47 = .ok (.iconst 0, 1) := by decide +kernel
theorem dX2_init_48 : decode cX2_init 48 = .ok (.putfield 34, 3) := by decide +kernel
theorem dX2_init_51 : decode cX2_init 51 = .ok (.aload_n 0, 1) := by decide +kernel
theorem dX2_init_52 : decode cX2_init 52 = .ok (.iconst 4, 1) := by decide +kernel
theorem dX2_init_53 : decode cX2_init 53 = .ok (.newarray .int, 2) := by decide +kernel
theorem dX2_init_55 : decode cX2_init 55 = .ok (.putfield 37, 3) := by decide +kernel
theorem dX2_init_58 : decode cX2_init 58 = .ok (.aload_n 0, 1) := by decide +kernel
theorem dX2_init_59 : decode cX2_init 59 = .ok (.iconst 0, 1) := by decide +kernel
theorem dX2_init_60 : decode cX2_init 60 = .ok (.putfield 40, 3) := by decide +kernel
theorem dX2_init_63 : decode cX2_init 63 = .ok (.aload_n 0, 1) := by decide +kernel
theorem dX2_init_64 : decode cX2_init 64 = .ok (.iconst 1, 1) := by decide +kernel
theorem dX2_init_65 : decode cX2_init 65 = .ok (.putfield 44, 3) := by decide +kernel
theorem dX2_init_68 : decode cX2_init 68 = .ok (.aload_n 0, 1) := by decide +kernel
theorem dX2_init_69 : decode cX2_init 69 = .ok (.iconst 1, 1) := by decide +kernel
theorem dX2_init_70 : decode cX2_init 70 = .ok (.putfield 47, 3) := by decide +kernel
theorem dX2_init_73 : decode cX2_init 73 = .ok (.aload_n 0, 1) := by decide +kernel
theorem dX2_init_74 : decode cX2_init 74 = .ok (.iconst 1, 1) := by decide +kernel
theorem dX2_init_75 : decode cX2_init 75 = .ok (.putfield 50, 3) := by decide +kernel
theorem dX2_init_78 : decode cX2_init 78 = .ok (.aload_n 0, 1) := by decide +kernel
theorem dX2_init_79 : decode cX2_init 79 = .ok (.iconst 0, 1) := by decide +kernel
theorem dX2_init_80 : decode cX2_init 80 = .ok (.putfield 53, 3) := by decide +kernel
theorem dX2_init_83 : decode cX2_init 83 = .ok (.aload_n 0, 1) := by decide +kernel
theorem dX2_init_84 : decode cX2_init 84 = .ok (.iconst 0, 1) := by decide +kernel
theorem dX2_init_85 : decode cX2_init 85 = .ok (.putfield 56, 3) := by decide +kernel
theorem dX2_init_88 : decode cX2_init 88 = .ok (.aload_n 0, 1) := by decide +kernel
theorem dX2_init_89 : decode cX2_init 89 = .ok (.bipush 60, 2) := by decide +kernel
theorem dX2_init_91 : decode cX2_init 91 = .ok (.newarray .int, 2) := by decide +kernel
theorem dX2_init_93 : decode cX2_init 93 = .ok (.putfield 59, 3) := by decide +kernel
theorem dX2_init_96 : decode cX2_init 96 = .ok (.aload_n 0, 1) := by decide +kernel
theorem dX2_init_97 : decode cX2_init 97 = .ok (.bipush 60, 2) := by decide +kernel
theorem dX2_init_99 : decode cX2_init 99 = .ok (.newarray .int, 2) := by decide +kernel
theorem dX2_init_101 : decode cX2_init 101 = .ok (.putfield 62, 3) := by decide +kernel
theorem dX2_init_104 : decode cX2_init 104 = .ok (.return_, 1) := by decide +kernel
theorem dX2_clear_0 : decode cX2_clear 0 = .ok (.aload_n 0, 1) := by decide +kernel
theorem dX2_clear_1 : decode cX2_clear 1 = .ok (.iconst 0, 1) := by decide +kernel
theorem dX2_clear_2 : decode cX2_clear 2 = .ok (.putfield 9, 3) := by decide +kernel
theorem dX2_clear_5 : decode cX2_clear 5 = .ok (.aload_n 0, 1) := by decide +kernel
theorem dX2_clear_6 : decode cX2_clear 6 = .ok (.iconst 0, 1) := by decide +kernel
theorem dX2_clear_7 : decode cX2_clear 7 = .ok (.putfield 15, 3) := by decide +kernel
theorem dX2_clear_10 : decode cX2_clear 10 = .ok (.aload_n 0, 1) := by decide +kernel
theorem dX2_clear_11 : decode cX2_clear 11 = .ok (.iconst 0, 1) := by decide +kernel
theorem dX2_clear_12 : decode cX2_clear 12 = .ok (.putfield 18, 3) := by decide +kernel
theorem dX2_clear_15 : decode cX2_clear 15 = .ok (.aload_n 0, 1) := by decide +kernel
theorem dX2_clear_16 : decode cX2_clear 16 = .ok (.iconst 0, 1) := by decide +kernel
theorem dX2_clear_17 : decode cX2_clear 17 = .ok (.putfield 28, 3) := by decide +kernel
theorem dX2_clear_20 : decode cX2_clear 20 = .ok (.aload_n 0, 1) := by decide +kernel
theorem dX2_clear_21 : decode cX2_clear 21 = .ok (.iconst 0, 1) := by decide +kernel
theorem dX2_clear_22 : decode cX2_clear 22 = .ok (.putfield 34, 3) := by decide +kernel
theorem dX2_clear_25 : decode cX2_clear 25 = .ok (.aload_n 0, 1) := by decide +kernel
theorem dX2_clear_26 : decode cX2_clear 26 = .ok (.iconst 0, 1) := by decide +kernel
theorem dX2_clear_27 : decode cX2_clear 27 = .ok (.putfield 40, 3) := by decide +kernel
theorem dX2_clear_30 : decode cX2_clear 30 = .ok (.aload_n 0, 1) := by decide +kernel
theorem dX2_clear_31 : decode cX2_clear 31 = .ok (.iconst 0, 1) := by decide +kernel
theorem dX2_clear_32 : decode cX2_clear 32 = .ok (.putfield 56, 3) := by decide +kernel
theorem dX2_clear_35 : decode cX2_clear 35 = .ok (.return_, 1) := by decide +kernel
theorem dX2_copyFrom_0 : decode cX2_copyFrom 0 = .ok (.aload_n 0, 1) := by decide +kernel
theorem dX2_copyFrom_1 : decode cX2_copyFrom 1 = .ok (.aload_n 1, 1) := by decide +kernel
theorem dX2_copyFrom_2 : decode cX2_copyFrom 2 = .ok (.getfield 9, 3) := by decide +kernel
theorem dX2_copyFrom_5 : decode cX2_copyFrom 5 = .ok (.putfield 9, 3) := by decide +kernel
theorem dX2_copyFrom_8 : decode cX2_copyFrom 8 = .ok (.aload_n 0, 1) := by decide +kernel
theorem dX2_copyFrom_9 : decode cX2_copyFrom 9 = .ok (.aload_n 1, 1) := by decide +kernel
theorem dX2_copyFrom_10 : decode cX2_copyFrom 10 = .ok (.getfield 15, 3) := by decide +kernel
theorem dX2_copyFrom_13 : decode cX2_copyFrom 13 = .ok (.putfield 15, 3) := by decide +kernel
theorem dX2_copyFrom_16 : decode cX2_copyFrom 16 = .ok (.aload_n 0, 1) := by decide +kernel
theorem dX2_copyFrom_17 : decode cX2_copyFrom 17 = .ok (.aload_n 1, 1) := by decide +kernel
theorem dX2_copyFrom_18 : decode cX2_copyFrom 18 = .ok (.getfield 18, 3) := by decide +kernel
theorem dX2_copyFrom_21 : decode cX2_copyFrom 21 = .ok (.putfield 18, 3) := by decide +kernel
theorem dX2_copyFrom_24 : decode cX2_copyFrom 24 = .ok (.aload_n 1, 1) := by decide +kernel
theorem dX2_copyFrom_25 : decode cX2_copyFrom 25 = .ok (.getfield 21, 3) := by decide +kernel
theorem dX2_copyFrom_28 : decode cX2_copyFrom 28 = .ok (.iconst 0, 1) := by decide +kernel
theorem dX2_copyFrom_29 : decode cX2_copyFrom 29 = .ok (.aload_n 0, 1) := by decide +kernel
theorem dX2_copyFrom_30 : decode cX2_copyFrom 30 = .ok (.getfield 21, 3) := by decide +kernel
theorem dX2_copyFrom_33 : decode cX2_copyFrom 33 = .ok (.iconst 0, 1) := by decide +kernel
theorem dX2_copyFrom_34 : decode cX2_copyFrom 34 = .ok (.iconst 4, 1) := by decide +kernel
theorem dX2_copyFrom_35 : decode cX2_copyFrom 35 = .ok (.invokestatic 65, 3) := by decide +kernel
theorem dX2_copyFrom_38 : decode cX2_copyFrom 38 = .ok (.aload_n 1, 1) := by decide +kernel
theorem dX2_copyFrom_39 : decode cX2_copyFrom 39 = .ok (.getfield 25, 3) := by decide +kernel
theorem dX2_copyFrom_42 : decode cX2_copyFrom 42 = .ok (.iconst 0, 1) := by decide +kernel
theorem dX2_copyFrom_43 : decode cX2_copyFrom 43 = .ok (.aload_n 0, 1) := by decide +kernel
theorem dX2_copyFrom_44 : decode cX2_copyFrom 44 = .ok (.getfield 25, 3) := by decide +kernel
theorem dX2_copyFrom_47 : decode cX2_copyFrom 47 = .ok (.iconst 0, 1) := by decide +kernel
theorem dX2_copyFrom_48 : decode cX2_copyFrom 48 = .ok (.iconst 4, 1) := by decide +kernel
theorem dX2_copyFrom_49 : decode cX2_copyFrom 49 = .ok (.invokestatic 65, 3) := by decide +kernel
theorem dX2_copyFrom_52 : decode cX2_copyFrom 52 = .ok (.aload_n 0, 1) := by decide +kernel
theorem dX2_copyFrom_53 : decode cX2_copyFrom 53 = .ok (.aload_n 1, 1) := by decide +kernel
theorem dX2_copyFrom_54 : decode cX2_copyFrom 54 = .ok (.getfield 28, 3) := by decide +kernel
theorem dX2_copyFrom_57 : decode cX2_copyFrom 57 = .ok (.putfield 28, 3) := by decide +kernel
theorem dX2_copyFrom_60 : decode cX2_copyFrom 60 = .ok (.aload_n 1, 1) := by decide +kernel
theorem dX2_copyFrom_61 : decode cX2_copyFrom 61 = .ok (.getfield 31, 3) := by decide +kernel
theorem dX2_copyFrom_64 : decode cX2_copyFrom 64 = .ok (.iconst 0, 1) := by decide +kernel
theorem dX2_copyFrom_65 : decode cX2_copyFrom 65 = .ok (.aload_n 0, 1) := by decide +kernel
theorem dX2_copyFrom_66 : decode cX2_copyFrom 66 = .ok (.getfield 31, 3) := by decide +kernel
theorem dX2_copyFrom_69 : decode cX2_copyFrom 69 = .ok (.iconst 0, 1) := by decide +kernel
theorem dX2_copyFrom_70 : decode cX2_copyFrom 70 = .ok (.bipush 8, 2) := by decide +kernel
theorem dX2_copyFrom_72 : decode cX2_copyFrom 72 = .ok (.invokestatic 65, 3) := by decide +kernel
theorem dX2_copyFrom_75 : decode cX2_copyFrom 75 = .ok (.aload_n 0, 1) := by decide +kernel
theorem dX2_copyFrom_76 : decode cX2_copyFrom 76 = .ok (.aload_n 1, 1) := by decide +kernel
theorem dX2_copyFrom_77 : decode cX2_copyFrom 77 = .ok (.getfield 34, 3) := by decide +kernel
theorem dX2_copyFrom_80 : decode cX2_copyFrom 80 = .ok (.putfield 34, 3) := by decide +kernel
theorem dX2_copyFrom_83 : decode cX2_copyFrom 83 = .ok (.aload_n 1, 1) := by decide +kernel
theorem dX2_copyFrom_84 : decode cX2_copyFrom 84 = .ok (.getfield 37, 3) := by decide +kernel
theorem dX2_copyFrom_87 : decode cX2_copyFrom 87 = .ok (.iconst 0, 1) := by decide +kernel
theorem dX2_copyFrom_88 : decode cX2_copyFrom 88 = .ok (.aload_n 0, 1) := by decide +kernel
theorem dX2_copyFrom_89 : decode cX2_copyFrom 89 = .ok (.getfield 37, 3) := by decide +kernel
theorem dX2_copyFrom_92 : decode cX2_copyFrom 92 = .ok (.iconst 0, 1) := by decide +kernel
theorem dX2_copyFrom_93 : decode cX2_copyFrom 93 = .ok (.iconst 4, 1) := by decide +kernel
theorem dX2_copyFrom_94 : decode cX2_copyFrom 94 = .ok (.invokestatic 65, 3) := by decide +kernel
theorem dX2_copyFrom_97 : decode cX2_copyFrom 97 = .ok (.aload_n 0, 1) := by decide +kernel
theorem dX2_copyFrom_98 : decode cX2_copyFrom 98 = .ok (.aload_n 1, 1) := by decide +kernel
theorem dX2_copyFrom_99 : decode cX2_copyFrom 99 = .ok (.getfield 40, 3) := by decide +kernel
theorem dX2_copyFrom_102 : decode cX2_copyFrom 102 = .ok (.putfield 40, 3) := by decide +kernel
theorem dX2_copyFrom_105 : decode cX2_copyFrom 105 = .ok (.aload_n 0, 1) := by decide +kernel
theorem dX2_copyFrom_106 : decode cX2_copyFrom 106 = .ok (.aload_n 1, 1) := by decide +kernel
theorem dX2_copyFrom_107 : decode cX2_copyFrom 107 = .ok (.getfield 44, 3) := by decide +kernel
theorem dX2_copyFrom_110 : decode cX2_copyFrom 110 = .ok (.putfield 44, 3) := by decide +kernel
theorem dX2_copyFrom_113 : decode cX2_copyFrom 113 = .ok (.aload_n 0, 1) := by decide +kernel
theorem dX2_copyFrom_114 : decode cX2_copyFrom 114 = .ok (.aload_n 1, 1) := by decide +kernel
theorem dX2_copyFrom_115 : decode cX2_copyFrom 115 = .ok (.getfield 47, 3) := by decide +kernel
theorem dX2_copyFrom_118 : decode cX2_copyFrom 118 = .ok (.putfield 47, 3) := by decide +kernel
theorem dX2_copyFrom_121 : decode cX2_copyFrom 121 = .ok (.aload_n 0, 1) := by decide +kernel
theorem dX2_copyFrom_122 : decode cX2_copyFrom 122 = .ok (.aload_n 1, 1) := by decide +kernel
theorem dX2_copyFrom_123 : decode cX2_copyFrom 123 = .ok (.getfield 50, 3) := by decide +kernel
theorem dX2_copyFrom_126 : decode cX2_copyFrom 126 = .ok (.putfield 50, 3) := by decide +kernel
theorem dX2_copyFrom_129 : decode cX2_copyFrom 129 = .ok (.aload_n 0, 1) := by decide +kernel
theorem dX2_copyFrom_130 : decode cX2_copyFrom 130 = .ok (.aload_n 1, 1) := by decide +kernel
theorem dX2_copyFrom_131 : decode cX2_copyFrom 131 = .ok (.getfield 53, 3) := by decide +kernel
theorem dX2_copyFrom_134 : decode cX2_copyFrom 134 = .ok (.putfield 53, 3) := by decide +kernel
theorem dX2_copyFrom_137 : decode cX2_copyFrom 137 = .ok (.aload_n 0, 1) := by decide +kernel
theorem dX2_copyFrom_138 : decode cX2_copyFrom 138 = .ok (.aload_n 1, 1) := by decide +kernel
theorem dX2_copyFrom_139 : decode cX2_copyFrom 139 = .ok (.getfield 56, 3) := by decide +kernel
theorem dX2_copyFrom_142 : decode cX2_copyFrom 142 = .ok (.putfield 56, 3) := by decide +kernel
theorem dX2_copyFrom_145 : decode cX2_copyFrom 145 = .ok (.aload_n 1, 1) := by decide +kernel
theorem dX2_copyFrom_146 : decode cX2_copyFrom 146 = .ok (.getfield 59, 3) := by decide +kernel
theorem dX2_copyFrom_149 : decode cX2_copyFrom 149 = .ok (.iconst 0, 1) := by decide +kernel
theorem dX2_copyFrom_150 : decode cX2_copyFrom 150 = .ok (.aload_n 0, 1) := by decide +kernel
theorem dX2_copyFrom_151 : decode cX2_copyFrom 151 = .ok (.getfield 59, 3) := by decide +kernel
theorem dX2_copyFrom_154 : decode cX2_copyFrom 154 = .ok (.iconst 0, 1) := by decide +kernel
theorem dX2_copyFrom_155 : decode cX2_copyFrom 155 = .ok (.bipush 60, 2) := by decide +kernel
theorem dX2_copyFrom_157 : decode cX2_copyFrom 157 = .ok (.invokestatic 65, 3) := by decide +kernel
theorem dX2_copyFrom_160 : decode cX2_copyFrom 160 = .ok (.aload_n 1, 1) := by decide +kernel
theorem dX2_copyFrom_161 : decode cX2_copyFrom 161 = .ok (.getfield 62, 3) := by decide +kernel
theorem dX2_copyFrom_164 : decode cX2_copyFrom 164 = .ok (.iconst 0, 1) := by decide +kernel
theorem dX2_copyFrom_165 : decode cX2_copyFrom 165 = .ok (.aload_n 0, 1) := by decide +kernel
theorem dX2_copyFrom_166 : decode cX2_copyFrom 166 = .ok (.getfield 62, 3) := by decide +kernel
theorem dX2_copyFrom_169 : decode cX2_copyFrom 169 = .ok (.iconst 0, 1) := by decide +kernel
theorem dX2_copyFrom_170 : decode cX2_copyFrom 170 = .ok (.bipush 60, 2) := by decide +kernel
theorem dX2_copyFrom_172 : decode cX2_copyFrom 172 = .ok (.invokestatic 65, 3) := by decide +kernel
theorem dX2_copyFrom_175 : decode cX2_copyFrom 175 = .ok (.return_, 1) := by decide +kernel
theorem dX2_isThere_0 : decode cX2_isThere 0 = .ok (.aload_n 0, 1) := by decide +kernel
theorem dX2_isThere_1 : decode cX2_isThere 1 = .ok (.getfield 9, 3) := by decide +kernel
theorem dX2_isThere_4 : decode cX2_isThere 4 = .ok (.ifCond .le 7, 3) := by decide +kernel
theorem dX2_isThere_7 : decode cX2_isThere 7 = .ok (.iconst 1, 1) := by decide +kernel
theorem dX2_isThere_8 : decode cX2_isThere 8 = .ok (.goto 4, 3) := by decide +kernel
theorem dX2_isThere_11 : decode cX2_isThere 11 = .ok (.iconst 0, 1) := by decide +kernel
theorem dX2_isThere_12 : decode cX2_isThere 12 = .ok (.ireturn, 1) := by decide +kernel
theorem dX2_hasPart_0 : decode cX2_hasPart 0 = .ok (.iload_n 1, 1) := by decide +kernel
theorem dX2_hasPart_1 : decode cX2_hasPart 1 = .ok (.ifCond .lt 15, 3) := by decide +kernel
theorem dX2_hasPart_4 : decode cX2_hasPart 4 = .ok (.iload_n 1, 1) := by decide +kernel
theorem dX2_hasPart_5 : decode cX2_hasPart 5 = .ok (.aload_n 0, 1) := by decide +kernel
theorem dX2_hasPart_6 : decode cX2_hasPart 6 = .ok (.getfield 18, 3) := by decide +kernel
theorem dX2_hasPart_9 : decode cX2_hasPart 9 = .ok (.if_icmp .ge 7, 3) := by decide +kernel
theorem dX2_hasPart_12 : decode cX2_hasPart 12 = .ok (.iconst 1, 1) := by decide +kernel
theorem dX2_hasPart_13 : decode cX2_hasPart 13 = .ok (.goto 4, 3) := by decide +kernel
theorem dX2_hasPart_16 : decode cX2_hasPart 16 = .ok (.iconst 0, 1) := by decide +kernel
theorem dX2_hasPart_17 : decode cX2_hasPart 17 = .ok (.ireturn, 1) := by decide +kernel
theorem dX2_hasWalker_0 : decode cX2_hasWalker 0 = .ok (.iload_n 1, 1) := by decide +kernel
theorem dX2_hasWalker_1 : decode cX2_hasWalker 1 = .ok (.ifCond .lt 15, 3) := by decide +kernel
theorem dX2_hasWalker_4 : decode cX2_hasWalker 4 = .ok (.iload_n 1, 1) := by decide +kernel
theorem dX2_hasWalker_5 : decode cX2_hasWalker 5 = .ok (.aload_n 0, 1) := by decide +kernel
theorem dX2_hasWalker_6 : decode cX2_hasWalker 6 = .ok (.getfield 28, 3) := by decide +kernel
theorem dX2_hasWalker_9 : decode cX2_hasWalker 9 = .ok (.if_icmp .ge 7, 3) := by decide +kernel
theorem dX2_hasWalker_12 : decode cX2_hasWalker 12 = .ok (.iconst 1, 1) := by decide +kernel
theorem dX2_hasWalker_13 : decode cX2_hasWalker 13 = .ok (.goto 4, 3) := by decide +kernel
theorem dX2_hasWalker_16 : decode cX2_hasWalker 16 = .ok (.iconst 0, 1) := by decide +kernel
theorem dX2_hasWalker_17 : decode cX2_hasWalker 17 = .ok (.ireturn, 1) := by decide +kernel
theorem dX2_allSteps_0 : decode cX2_allSteps 0 = .ok (.aload_n 0, 1) := by decide +kernel
theorem dX2_allSteps_1 : decode cX2_allSteps 1 = .ok (.aload_n 0, 1) := by decide +kernel
theorem dX2_allSteps_2 : decode cX2_allSteps 2 = .ok (.getfield 18, 3) := by decide +kernel
theorem dX2_allSteps_5 : decode cX2_allSteps 5 = .ok (.invokevirtual 71, 3) := by decide +kernel
theorem dX2_allSteps_8 : decode cX2_allSteps 8 = .ok (.ireturn, 1) := by decide +kernel
theorem dX2_stepsAhead_0 : decode cX2_stepsAhead 0 = .ok (.iconst 0, 1) := by decide +kernel
theorem dX2_stepsAhead_1 : decode cX2_stepsAhead 1 = .ok (.istore_n 2, 1) := by decide +kernel
theorem dX2_stepsAhead_2 : decode cX2_stepsAhead 2 = .ok (.iconst 0, 1) := by decide +kernel
theorem dX2_stepsAhead_3 : decode cX2_stepsAhead 3 = .ok (.istore_n 3, 1) := by decide +kernel
theorem dX2_stepsAhead_4 : decode cX2_stepsAhead 4 = .ok (.iload_n 3, 1) := by decide +kernel
theorem dX2_stepsAhead_5 : decode cX2_stepsAhead 5 = .ok (.iload_n 1, 1) := by decide +kernel
theorem dX2_stepsAhead_6 : decode cX2_stepsAhead 6 = .ok (.if_icmp .ge 23, 3) := by decide +kernel
theorem dX2_stepsAhead_9 : decode cX2_stepsAhead 9 = .ok (.iload_n 3, 1) := by decide +kernel
theorem dX2_stepsAhead_10 : decode cX2_stepsAhead 10 = .ok (.iconst 4, 1) := by decide +kernel
theorem dX2_stepsAhead_11 : decode cX2_stepsAhead 11 = .ok (.if_icmp .ge 18, 3) := by decide +kernel
theorem dX2_stepsAhead_14 : decode cX2_stepsAhead 14 = .ok (.iload_n 2, 1) := by decide +kernel
theorem dX2_stepsAhead_15 : decode cX2_stepsAhead 15 = .ok (.aload_n 0, 1) := by decide +kernel
theorem dX2_stepsAhead_16 : decode cX2_stepsAhead 16 = .ok (.getfield 21, 3) := by decide +kernel
theorem dX2_stepsAhead_19 : decode cX2_stepsAhead 19 = .ok (.iload_n 3, 1) := by decide +kernel
theorem dX2_stepsAhead_20 : decode cX2_stepsAhead 20 = .ok (.iaload, 1) := by decide +kernel
theorem dX2_stepsAhead_21 : decode cX2_stepsAhead 21 = .ok (.iadd, 1) := by decide +kernel
theorem dX2_stepsAhead_22 : decode cX2_stepsAhead 22 = .ok (.istore_n 2, 1) := by decide +kernel
theorem dX2_stepsAhead_23 : decode cX2_stepsAhead 23 = .ok (.iinc 3 1, 3) := by decide +kernel
theorem dX2_stepsAhead_26 : decode cX2_stepsAhead 26 = .ok (.goto (-22), 3) := by decide +kernel
theorem dX2_stepsAhead_29 : decode cX2_stepsAhead 29 = .ok (.iload_n 2, 1) := by decide +kernel
theorem dX2_stepsAhead_30 : decode cX2_stepsAhead 30 = .ok (.ireturn, 1) := by decide +kernel
theorem dX2_turnRound_0 : decode cX2_turnRound 0 = .ok (.iconst 0, 1) := by decide +kernel
theorem dX2_turnRound_1 : decode cX2_turnRound 1 = .ok (.istore_n 1, 1) := by decide +kernel
theorem dX2_turnRound_2 : decode cX2_turnRound 2 = .ok (.iload_n 1, 1) := by decide +kernel
theorem dX2_turnRound_3 : decode cX2_turnRound 3 = .ok (.aload_n 0, 1) := by decide +kernel
theorem dX2_turnRound_4 : decode cX2_turnRound 4 = .ok (.getfield 18, 3) := by decide +kernel
theorem dX2_turnRound_7 : decode cX2_turnRound 7 = .ok (.if_icmp .ge 22, 3) := by decide +kernel
theorem dX2_turnRound_10 : decode cX2_turnRound 10 = .ok (.aload_n 0, 1) := by decide +kernel
theorem dX2_turnRound_11 : decode cX2_turnRound 11 = .ok (.getfield 25, 3) := by decide +kernel
theorem dX2_turnRound_14 : decode cX2_turnRound 14 = .ok (.iload_n 1, 1) := by decide +kernel
theorem dX2_turnRound_15 : decode cX2_turnRound 15 = .ok (.aload_n 0, 1) := by decide +kernel
theorem dX2_turnRound_16 : decode cX2_turnRound 16 = .ok (.getfield 25, 3) := by decide +kernel
theorem dX2_turnRound_19 : decode cX2_turnRound 19 = .ok (.iload_n 1, 1) := by decide +kernel
theorem dX2_turnRound_20 : decode cX2_turnRound 20 = .ok (.iaload, 1) := by decide +kernel
theorem dX2_turnRound_21 : decode cX2_turnRound 21 = .ok (.ineg, 1) := by decide +kernel
theorem dX2_turnRound_22 : decode cX2_turnRound 22 = .ok (.iastore, 1) := by decide +kernel
theorem dX2_turnRound_23 : decode cX2_turnRound 23 = .ok (.iinc 1 1, 3) := by decide +kernel
theorem dX2_turnRound_26 : decode cX2_turnRound 26 = .ok (.goto (-24), 3) := by decide +kernel
theorem dX2_turnRound_29 : decode cX2_turnRound 29 = .ok (.return_, 1) := by decide +kernel
theorem dX2_noteAct_0 : decode cX2_noteAct 0 = .ok (.aload_n 0, 1) := by decide +kernel
theorem dX2_noteAct_1 : decode cX2_noteAct 1 = .ok (.getfield 56, 3) := by decide +kernel
theorem dX2_noteAct_4 : decode cX2_noteAct 4 = .ok (.bipush 60, 2) := by decide +kernel
theorem dX2_noteAct_6 : decode cX2_noteAct 6 = .ok (.if_icmp .lt 4, 3) := by decide +kernel
theorem dX2_noteAct_9 : decode cX2_noteAct 9 = .ok (.return_, 1) := by decide +kernel
theorem dX2_noteAct_10 : decode cX2_noteAct 10 = .ok (.aload_n 0, 1) := by decide +kernel
theorem dX2_noteAct_11 : decode cX2_noteAct 11 = .ok (.getfield 59, 3) := by decide +kernel
theorem dX2_noteAct_14 : decode cX2_noteAct 14 = .ok (.aload_n 0, 1) := by decide +kernel
theorem dX2_noteAct_15 : decode cX2_noteAct 15 = .ok (.getfield 56, 3) := by decide +kernel
theorem dX2_noteAct_18 : decode cX2_noteAct 18 = .ok (.iload_n 1, 1) := by decide +kernel
theorem dX2_noteAct_19 : decode cX2_noteAct 19 = .ok (.iastore, 1) := by decide +kernel
theorem dX2_noteAct_20 : decode cX2_noteAct 20 = .ok (.aload_n 0, 1) := by decide +kernel
theorem dX2_noteAct_21 : decode cX2_noteAct 21 = .ok (.getfield 62, 3) := by decide +kernel
theorem dX2_noteAct_24 : decode cX2_noteAct 24 = .ok (.aload_n 0, 1) := by decide +kernel
theorem dX2_noteAct_25 : decode cX2_noteAct 25 = .ok (.getfield 56, 3) := by decide +kernel
theorem dX2_noteAct_28 : decode cX2_noteAct 28 = .ok (.iload_n 2, 1) := by decide +kernel
theorem dX2_noteAct_29 : decode cX2_noteAct 29 = .ok (.iastore, 1) := by decide +kernel
theorem dX2_noteAct_30 : decode cX2_noteAct 30 = .ok (.aload_n 0, 1) := by decide +kernel
theorem dX2_noteAct_31 : decode cX2_noteAct 31 = .ok (.dup, 1) := by decide +kernel
theorem dX2_noteAct_32 : decode cX2_noteAct 32 = .ok (.getfield 56, 3) := by decide +kernel
theorem dX2_noteAct_35 : decode cX2_noteAct 35 = .ok (.iconst 1, 1) := by decide +kernel
theorem dX2_noteAct_36 : decode cX2_noteAct 36 = .ok (.iadd, 1) := by decide +kernel
theorem dX2_noteAct_37 : decode cX2_noteAct 37 = .ok (.putfield 56, 3) := by decide +kernel
theorem dX2_noteAct_40 : decode cX2_noteAct 40 = .ok (.return_, 1) := by decide +kernel
theorem dX2_takeBackAct_0 : decode cX2_takeBackAct 0 = .ok (.aload_n 0, 1) := by decide +kernel
theorem dX2_takeBackAct_1 : decode cX2_takeBackAct 1 = .ok (.getfield 56, 3) := by decide +kernel
theorem dX2_takeBackAct_4 : decode cX2_takeBackAct 4 = .ok (.ifCond .gt 4, 3) := by decide +kernel
theorem dX2_takeBackAct_7 : decode cX2_takeBackAct 7 = .ok (.return_, 1) := by decide +kernel
theorem dX2_takeBackAct_8 : decode cX2_takeBackAct 8 = .ok (.aload_n 0, 1) := by decide +kernel
theorem dX2_takeBackAct_9 : decode cX2_takeBackAct 9 = .ok (.dup, 1) := by decide +kernel
theorem dX2_takeBackAct_10 : decode cX2_takeBackAct 10 = .ok (.getfield 56, 3) := by decide +kernel
theorem dX2_takeBackAct_13 : decode cX2_takeBackAct 13 = .ok (.iconst 1, 1) := by decide +kernel
theorem dX2_takeBackAct_14 : decode cX2_takeBackAct 14 = .ok (.isub, 1) := by decide +kernel
theorem dX2_takeBackAct_15 : decode cX2_takeBackAct 15 = .ok (.putfield 56, 3) := by decide +kernel
theorem dX2_takeBackAct_18 : decode cX2_takeBackAct 18 = .ok (.aload_n 0, 1) := by decide +kernel
theorem dX2_takeBackAct_19 : decode cX2_takeBackAct 19 = .ok (.aload_n 0, 1) := by decide +kernel
theorem dX2_takeBackAct_20 : decode cX2_takeBackAct 20 = .ok (.getfield 59, 3) := by decide +kernel
theorem dX2_takeBackAct_23 : decode cX2_takeBackAct 23 = .ok (.aload_n 0, 1) := by decide +kernel
theorem dX2_takeBackAct_24 : decode cX2_takeBackAct 24 = .ok (.getfield 56, 3) := by decide +kernel
theorem dX2_takeBackAct_27 : decode cX2_takeBackAct 27 = .ok (.iaload, 1) := by decide +kernel
theorem dX2_takeBackAct_28 : decode cX2_takeBackAct 28 = .ok (.invokevirtual 75, 3) := by decide +kernel
theorem dX2_takeBackAct_31 : decode cX2_takeBackAct 31 = .ok (.ifCond .eq 29, 3) := by decide +kernel
theorem dX2_takeBackAct_34 : decode cX2_takeBackAct 34 = .ok (.aload_n 0, 1) := by decide +kernel
theorem dX2_takeBackAct_35 : decode cX2_takeBackAct 35 = .ok (.getfield 25, 3) := by decide +kernel
theorem dX2_takeBackAct_38 : decode cX2_takeBackAct 38 = .ok (.aload_n 0, 1) := by decide +kernel
theorem dX2_takeBackAct_39 : decode cX2_takeBackAct 39 = .ok (.getfield 59, 3) := by decide +kernel
theorem dX2_takeBackAct_42 : decode cX2_takeBackAct 42 = .ok (.aload_n 0, 1) := by decide +kernel
theorem dX2_takeBackAct_43 : decode cX2_takeBackAct 43 = .ok (.getfield 56, 3) := by decide +kernel
theorem dX2_takeBackAct_46 : decode cX2_takeBackAct 46 = .ok (.iaload, 1) := by decide +kernel
theorem dX2_takeBackAct_47 : decode cX2_takeBackAct 47 = .ok (.aload_n 0, 1) := by decide +kernel
theorem dX2_takeBackAct_48 : decode cX2_takeBackAct 48 = .ok (.getfield 62, 3) := by decide +kernel
theorem dX2_takeBackAct_51 : decode cX2_takeBackAct 51 = .ok (.aload_n 0, 1) := by decide +kernel
theorem dX2_takeBackAct_52 : decode cX2_takeBackAct 52 = .ok (.getfield 56, 3) := by decide +kernel
theorem dX2_takeBackAct_55 : decode cX2_takeBackAct 55 = .ok (.iaload, 1) := by decide +kernel
theorem dX2_takeBackAct_56 : decode cX2_takeBackAct 56 = .ok (.iastore, 1) := by decide +kernel
theorem dX2_takeBackAct_57 : decode cX2_takeBackAct 57 = .ok (.goto 7, 3) := by decide +kernel
theorem dX2_takeBackAct_60 : decode cX2_takeBackAct 60 = .ok (.aload_n 0, 1) := by decide +kernel
theorem dX2_takeBackAct_61 : decode cX2_takeBackAct 61 = .ok (.invokevirtual 79, 3) := by decide +kernel
theorem dX2_takeBackAct_64 : decode cX2_takeBackAct 64 = .ok (.return_, 1) := by decide +kernel
theorem dX2_putStanding_0 : decode cX2_putStanding 0 = .ok (.aload_n 2, 1) := by decide +kernel
theorem dX2_putStanding_1 : decode cX2_putStanding 1 = .ok (.ldc2_w 82, 3) := by decide +kernel
theorem dX2_putStanding_4 : decode cX2_putStanding 4 = .ok (.aload_n 0, 1) := by decide +kernel
theorem dX2_putStanding_5 : decode cX2_putStanding 5 = .ok (.getfield 25, 3) := by decide +kernel
theorem dX2_putStanding_8 : decode cX2_putStanding 8 = .ok (.iload_n 1, 1) := by decide +kernel
theorem dX2_putStanding_9 : decode cX2_putStanding 9 = .ok (.iaload, 1) := by decide +kernel
theorem dX2_putStanding_10 : decode cX2_putStanding 10 = .ok (.i2l, 1) := by decide +kernel
theorem dX2_putStanding_11 : decode cX2_putStanding 11 = .ok (.lmul, 1) := by decide +kernel
theorem dX2_putStanding_12 : decode cX2_putStanding 12 = .ok (.aload_n 0, 1) := by decide +kernel
theorem dX2_putStanding_13 : decode cX2_putStanding 13 = .ok (.getfield 44, 3) := by decide +kernel
theorem dX2_putStanding_16 : decode cX2_putStanding 16 = .ok (.i2l, 1) := by decide +kernel
theorem dX2_putStanding_17 : decode cX2_putStanding 17 = .ok (.invokevirtual 84, 3) := by decide +kernel
theorem dX2_putStanding_20 : decode cX2_putStanding 20 = .ok (.return_, 1) := by decide +kernel
theorem dX2_putWalking_0 : decode cX2_putWalking 0 = .ok (.ldc2_w 90, 3) := by decide +kernel
theorem dX2_putWalking_3 : decode cX2_putWalking 3 = .ok (.aload_n 0, 1) := by decide +kernel
theorem dX2_putWalking_4 : decode cX2_putWalking 4 = .ok (.getfield 25, 3) := by decide +kernel
theorem dX2_putWalking_7 : decode cX2_putWalking 7 = .ok (.iload_n 1, 1) := by decide +kernel
theorem dX2_putWalking_8 : decode cX2_putWalking 8 = .ok (.iaload, 1) := by decide +kernel
theorem dX2_putWalking_9 : decode cX2_putWalking 9 = .ok (.i2l, 1) := by decide +kernel
theorem dX2_putWalking_10 : decode cX2_putWalking 10 = .ok (.lmul, 1) := by decide +kernel
theorem dX2_putWalking_11 : decode cX2_putWalking 11 = .ok (.lstore 4, 2) := by decide +kernel
theorem dX2_putWalking_13 : decode cX2_putWalking 13 = .ok (.aload_n 0, 1) := by decide +kernel
theorem dX2_putWalking_14 : decode cX2_putWalking 14 = .ok (.getfield 44, 3) := by decide +kernel
theorem dX2_putWalking_17 : decode cX2_putWalking 17 = .ok (.i2l, 1) := by decide +kernel
theorem dX2_putWalking_18 : decode cX2_putWalking 18 = .ok (.bipush 100, 2) := by decide +kernel
theorem dX2_putWalking_20 : decode cX2_putWalking 20 = .ok (.iload_n 2, 1) := by decide +kernel
theorem dX2_putWalking_21 : decode cX2_putWalking 21 = .ok (.isub, 1) := by decide +kernel
theorem dX2_putWalking_22 : decode cX2_putWalking 22 = .ok (.i2l, 1) := by decide +kernel
theorem dX2_putWalking_23 : decode cX2_putWalking 23 = .ok (.lmul, 1) := by decide +kernel
theorem dX2_putWalking_24 : decode cX2_putWalking 24 = .ok (.lstore 6, 2) := by decide +kernel
theorem dX2_putWalking_26 : decode cX2_putWalking 26 = .ok (.ldc2_w 90, 3) := by decide +kernel
theorem dX2_putWalking_29 : decode cX2_putWalking 29 = .ok (.aload_n 0, 1) := by decide +kernel
theorem dX2_putWalking_30 : decode cX2_putWalking 30 = .ok (.getfield 25, 3) := by decide +kernel
theorem dX2_putWalking_33 : decode cX2_putWalking 33 = .ok (.iload_n 1, 1) := by decide +kernel
theorem dX2_putWalking_34 : decode cX2_putWalking 34 = .ok (.iaload, 1) := by decide +kernel
theorem dX2_putWalking_35 : decode cX2_putWalking 35 = .ok (.aload_n 0, 1) := by decide +kernel
theorem dX2_putWalking_36 : decode cX2_putWalking 36 = .ok (.getfield 50, 3) := by decide +kernel
theorem dX2_putWalking_39 : decode cX2_putWalking 39 = .ok (.iadd, 1) := by decide +kernel
theorem dX2_putWalking_40 : decode cX2_putWalking 40 = .ok (.i2l, 1) := by decide +kernel
theorem dX2_putWalking_41 : decode cX2_putWalking 41 = .ok (.lmul, 1) := by decide +kernel
theorem dX2_putWalking_42 : decode cX2_putWalking 42 = .ok (.lstore 8, 2) := by decide +kernel
theorem dX2_putWalking_44 : decode cX2_putWalking 44 = .ok (.aload_n 0, 1) := by decide +kernel
theorem dX2_putWalking_45 : decode cX2_putWalking 45 = .ok (.getfield 47, 3) := by decide +kernel
theorem dX2_putWalking_48 : decode cX2_putWalking 48 = .ok (.i2l, 1) := by decide +kernel
theorem dX2_putWalking_49 : decode cX2_putWalking 49 = .ok (.iload_n 2, 1) := by decide +kernel
theorem dX2_putWalking_50 : decode cX2_putWalking 50 = .ok (.i2l, 1) := by decide +kernel
theorem dX2_putWalking_51 : decode cX2_putWalking 51 = .ok (.lmul, 1) := by decide +kernel
theorem dX2_putWalking_52 : decode cX2_putWalking 52 = .ok (.lstore 10, 2) := by decide +kernel
theorem dX2_putWalking_54 : decode cX2_putWalking 54 = .ok (.iload_n 2, 1) := by decide +kernel
theorem dX2_putWalking_55 : decode cX2_putWalking 55 = .ok (.bipush 100, 2) := by decide +kernel
theorem dX2_putWalking_57 : decode cX2_putWalking 57 = .ok (.if_icmp .eq 21, 3) := by decide +kernel
theorem dX2_putWalking_60 : decode cX2_putWalking 60 = .ok (.iload_n 2, 1) := by decide +kernel
theorem dX2_putWalking_61 : decode cX2_putWalking 61 = .ok (.ifCond .le 21, 3) := by decide +kernel
theorem dX2_putWalking_64 : decode cX2_putWalking 64 = .ok (.lload 8, 2) := by decide +kernel
theorem dX2_putWalking_66 : decode cX2_putWalking 66 = .ok (.lload 6, 2) := by decide +kernel
theorem dX2_putWalking_68 : decode cX2_putWalking 68 = .ok (.lmul, 1) := by decide +kernel
theorem dX2_putWalking_69 : decode cX2_putWalking 69 = .ok (.lload 4, 2) := by decide +kernel
theorem dX2_putWalking_71 : decode cX2_putWalking 71 = .ok (.lload 10, 2) := by decide +kernel
theorem dX2_putWalking_73 : decode cX2_putWalking 73 = .ok (.lmul, 1) := by decide +kernel
theorem dX2_putWalking_74 : decode cX2_putWalking 74 = .ok (.lcmp, 1) := by decide +kernel
theorem dX2_putWalking_75 : decode cX2_putWalking 75 = .ok (.ifCond .ge 7, 3) := by decide +kernel
theorem dX2_putWalking_78 : decode cX2_putWalking 78 = .ok (.iconst 1, 1) := by decide +kernel
theorem dX2_putWalking_79 : decode cX2_putWalking 79 = .ok (.goto 4, 3) := by decide +kernel
theorem dX2_putWalking_82 : decode cX2_putWalking 82 = .ok (.iconst 0, 1) := by decide +kernel
theorem dX2_putWalking_83 : decode cX2_putWalking 83 = .ok (.istore 12, 2) := by decide +kernel
theorem dX2_putWalking_85 : decode cX2_putWalking 85 = .ok (.iload 12, 2) := by decide +kernel
theorem dX2_putWalking_87 : decode cX2_putWalking 87 = .ok (.ifCond .eq 14, 3) := by decide +kernel
theorem dX2_putWalking_90 : decode cX2_putWalking 90 = .ok (.aload_n 3, 1) := by decide +kernel
theorem dX2_putWalking_91 : decode cX2_putWalking 91 = .ok (.lload 8, 2) := by decide +kernel
theorem dX2_putWalking_93 : decode cX2_putWalking 93 = .ok (.lload 10, 2) := by decide +kernel
theorem dX2_putWalking_95 : decode cX2_putWalking 95 = .ok (.invokevirtual 84, 3) := by decide +kernel
theorem dX2_putWalking_98 : decode cX2_putWalking 98 = .ok (.goto 11, 3) := by decide +kernel
theorem dX2_putWalking_101 : decode cX2_putWalking 101 = .ok (.aload_n 3, 1) := by decide +kernel
theorem dX2_putWalking_102 : decode cX2_putWalking 102 = .ok (.lload 4, 2) := by decide +kernel
theorem dX2_putWalking_104 : decode cX2_putWalking 104 = .ok (.lload 6, 2) := by decide +kernel
theorem dX2_putWalking_106 : decode cX2_putWalking 106 = .ok (.invokevirtual 84, 3) := by decide +kernel
theorem dX2_putWalking_109 : decode cX2_putWalking 109 = .ok (.return_, 1) := by decide +kernel
theorem dX3_init_0 : decode cX3_init 0 = .ok (.aload_n 0, 1) := by decide +kernel
theorem dX3_init_1 : decode cX3_init 1 = .ok (.invokespecial 5, 3) := by decide +kernel
theorem dX3_init_4 : decode cX3_init 4 = .ok (.aload_n 0, 1) := by decide +kernel
theorem dX3_init_5 : decode cX3_init 5 = .ok (.iconst 0, 1) := by decide +kernel
theorem dX3_init_6 : decode cX3_init 6 = .ok (.putfield 11, 3) := by decide +kernel
theorem dX3_init_9 : decode cX3_init 9 = .ok (.aload_n 0, 1) := by decide +kernel
theorem dX3_init_10 : decode cX3_init 10 = .ok (.lconst 0, 1) := by decide +kernel
theorem dX3_init_11 : decode cX3_init 11 = .ok (.putfield 15, 3) := by decide +kernel
theorem dX3_init_14 : decode cX3_init 14 = .ok (.aload_n 0, 1) := by decide +kernel
theorem dX3_init_15 : decode cX3_init 15 = .ok (.iconst 0, 1) := by decide +kernel
theorem dX3_init_16 : decode cX3_init 16 = .ok (.putfield 19, 3) := by decide +kernel
theorem dX3_init_19 : decode cX3_init 19 = .ok (.aload_n 0, 1) := by decide +kernel
theorem dX3_init_20 : decode cX3_init 20 = .ok (.lconst 0, 1) := by decide +kernel
theorem dX3_init_21 : decode cX3_init 21 = .ok (.putfield 23, 3) := by decide +kernel
theorem dX3_init_24 : decode cX3_init 24 = .ok (.aload_n 0, 1) := by decide +kernel
theorem dX3_init_25 : decode cX3_init 25 = .ok (.lconst 0, 1) := by decide +kernel
theorem dX3_init_26 : decode cX3_init 26 = .ok (.putfield 26, 3) := by decide +kernel
theorem dX3_init_29 : decode cX3_init 29 = .ok (.aload_n 0, 1) := by decide +kernel
theorem dX3_init_30 : decode cX3_init 30 = .ok (.iconst 0, 1) := by decide +kernel
theorem dX3_init_31 : decode cX3_init 31 = .ok (.putfield 29, 3) := by decide +kernel
theorem dX3_init_34 : decode cX3_init 34 = .ok (.aload_n 0, 1) := by decide +kernel
theorem dX3_init_35 : decode cX3_init 35 = .ok (.lconst 0, 1) := by decide +kernel
theorem dX3_init_36 : decode cX3_init 36 = .ok (.putfield 32, 3) := by decide +kernel
theorem dX3_init_39 : decode cX3_init 39 = .ok (.aload_n 0, 1) := by decide +kernel
theorem dX3_init_40 : decode cX3_init 40 = .ok (.bipush 30, 2) := by decide +kernel
theorem dX3_init_42 : decode cX3_init 42 = .ok (.newarray .long, 2) := by decide +kernel
theorem dX3_init_44 : decode cX3_init 44 = .ok (.putfield 35, 3) := by decide +kernel
theorem dX3_init_47 : decode cX3_init 47 = .ok (.aload_n 0, 1) := by decide +kernel
theorem dX3_init_48 : decode cX3_init 48 = .ok (.bipush 30, 2) := by decide +kernel
theorem dX3_init_50 : decode cX3_init 50 = .ok (.newarray .long, 2) := by decide +kernel
theorem dX3_init_52 : decode cX3_init 52 = .ok (.putfield 39, 3) := by decide +kernel
theorem dX3_init_55 : decode cX3_init 55 = .ok (.return_, 1) := by decide +kernel
theorem dX3_pass_0 : decode cX3_pass 0 = .ok (.aload_n 0, 1) := by decide +kernel
theorem dX3_pass_1 : decode cX3_pass 1 = .ok (.lconst 0, 1) := by decide +kernel
theorem dX3_pass_2 : decode cX3_pass 2 = .ok (.putfield 15, 3) := by decide +kernel
theorem dX3_pass_5 : decode cX3_pass 5 = .ok (.aload_n 0, 1) := by decide +kernel
theorem dX3_pass_6 : decode cX3_pass 6 = .ok (.iconst 0, 1) := by decide +kernel
theorem dX3_pass_7 : decode cX3_pass 7 = .ok (.putfield 19, 3) := by decide +kernel
theorem dX3_pass_10 : decode cX3_pass 10 = .ok (.lconst 0, 1) := by decide +kernel
theorem dX3_pass_11 : decode cX3_pass 11 = .ok (.lstore 4, 2) := by decide +kernel
theorem dX3_pass_13 : decode cX3_pass 13 = .ok (.iconst 0, 1) := by decide +kernel
theorem dX3_pass_14 : decode cX3_pass 14 = .ok (.istore 6, 2) := by decide +kernel
theorem dX3_pass_16 : decode cX3_pass 16 = .ok (.iload 6, 2) := by decide +kernel
theorem dX3_pass_18 : decode cX3_pass 18 = .ok (.aload_n 1, 1) := by decide +kernel
theorem dX3_pass_19 : decode cX3_pass 19 = .ok (.getfield 42, 3) := by decide +kernel
theorem dX3_pass_22 : decode cX3_pass 22 = .ok (.if_icmp .ge 53, 3) := by decide +kernel
theorem dX3_pass_25 : decode cX3_pass 25 = .ok (.lconst 0, 1) := by decide +kernel
theorem dX3_pass_26 : decode cX3_pass 26 = .ok (.lload 4, 2) := by decide +kernel
theorem dX3_pass_28 : decode cX3_pass 28 = .ok (.aload_n 1, 1) := by decide +kernel
theorem dX3_pass_29 : decode cX3_pass 29 = .ok (.getfield 47, 3) := by decide +kernel
theorem dX3_pass_32 : decode cX3_pass 32 = .ok (.iload 6, 2) := by decide +kernel
theorem dX3_pass_34 : decode cX3_pass 34 = .ok (.laload, 1) := by decide +kernel
theorem dX3_pass_35 : decode cX3_pass 35 = .ok (.ladd, 1) := by decide +kernel
theorem dX3_pass_36 : decode cX3_pass 36 = .ok (.lload_n 2, 1) := by decide +kernel
theorem dX3_pass_37 : decode cX3_pass 37 = .ok (.lsub, 1) := by decide +kernel
theorem dX3_pass_38 : decode cX3_pass 38 = .ok (.invokestatic 50, 3) := by decide +kernel
theorem dX3_pass_41 : decode cX3_pass 41 = .ok (.lstore 4, 2) := by decide +kernel
theorem dX3_pass_43 : decode cX3_pass 43 = .ok (.aload_n 0, 1) := by decide +kernel
theorem dX3_pass_44 : decode cX3_pass 44 = .ok (.dup, 1) := by decide +kernel
theorem dX3_pass_45 : decode cX3_pass 45 = .ok (.getfield 15, 3) := by decide +kernel
theorem dX3_pass_48 : decode cX3_pass 48 = .ok (.lload 4, 2) := by decide +kernel
theorem dX3_pass_50 : decode cX3_pass 50 = .ok (.ladd, 1) := by decide +kernel
theorem dX3_pass_51 : decode cX3_pass 51 = .ok (.putfield 15, 3) := by decide +kernel
theorem dX3_pass_54 : decode cX3_pass 54 = .ok (.lload 4, 2) := by decide +kernel
theorem dX3_pass_56 : decode cX3_pass 56 = .ok (.lconst 0, 1) := by decide +kernel
theorem dX3_pass_57 : decode cX3_pass 57 = .ok (.lcmp, 1) := by decide +kernel
theorem dX3_pass_58 : decode cX3_pass 58 = .ok (.ifCond .le 11, 3) := by decide +kernel
theorem dX3_pass_61 : decode cX3_pass 61 = .ok (.aload_n 0, 1) := by decide +kernel
theorem dX3_pass_62 : decode cX3_pass 62 = .ok (.iload 6, 2) := by decide +kernel
theorem dX3_pass_64 : decode cX3_pass 64 = .ok (.iconst 2, 1) := by decide +kernel
theorem dX3_pass_65 : decode cX3_pass 65 = .ok (.iadd, 1) := by decide +kernel
theorem dX3_pass_66 : decode cX3_pass 66 = .ok (.putfield 19, 3) := by decide +kernel
theorem dX3_pass_69 : decode cX3_pass 69 = .ok (.iinc 6 1, 3) := by decide +kernel
theorem dX3_pass_72 : decode cX3_pass 72 = .ok (.goto (-56), 3) := by decide +kernel
theorem dX3_pass_75 : decode cX3_pass 75 = .ok (.aload_n 0, 1) := by decide +kernel
theorem dX3_pass_76 : decode cX3_pass 76 = .ok (.lload 4, 2) := by decide +kernel
theorem dX3_pass_78 : decode cX3_pass 78 = .ok (.lconst 0, 1) := by decide +kernel
theorem dX3_pass_79 : decode cX3_pass 79 = .ok (.lcmp, 1) := by decide +kernel
theorem dX3_pass_80 : decode cX3_pass 80 = .ok (.ifCond .le 13, 3) := by decide +kernel
theorem dX3_pass_83 : decode cX3_pass 83 = .ok (.lload_n 2, 1) := by decide +kernel
theorem dX3_pass_84 : decode cX3_pass 84 = .ok (.lconst 0, 1) := by decide +kernel
theorem dX3_pass_85 : decode cX3_pass 85 = .ok (.lcmp, 1) := by decide +kernel
theorem dX3_pass_86 : decode cX3_pass 86 = .ok (.ifCond .gt 7, 3) := by decide +kernel
theorem dX3_pass_89 : decode cX3_pass 89 = .ok (.iconst 1, 1) := by decide +kernel
theorem dX3_pass_90 : decode cX3_pass 90 = .ok (.goto 4, 3) := by decide +kernel
theorem dX3_pass_93 : decode cX3_pass 93 = .ok (.iconst 0, 1) := by decide +kernel
theorem dX3_pass_94 : decode cX3_pass 94 = .ok (.putfield 11, 3) := by decide +kernel
theorem dX3_pass_97 : decode cX3_pass 97 = .ok (.lload 4, 2) := by decide +kernel
theorem dX3_pass_99 : decode cX3_pass 99 = .ok (.lconst 0, 1) := by decide +kernel
theorem dX3_pass_100 : decode cX3_pass 100 = .ok (.lcmp, 1) := by decide +kernel
theorem dX3_pass_101 : decode cX3_pass 101 = .ok (.ifCond .eq 9, 3) := by decide +kernel
theorem dX3_pass_104 : decode cX3_pass 104 = .ok (.lload_n 2, 1) := by decide +kernel
theorem dX3_pass_105 : decode cX3_pass 105 = .ok (.lconst 0, 1) := by decide +kernel
theorem dX3_pass_106 : decode cX3_pass 106 = .ok (.lcmp, 1) := by decide +kernel
theorem dX3_pass_107 : decode cX3_pass 107 = .ok (.ifCond .gt 4, 3) := by decide +kernel
theorem dX3_pass_110 : decode cX3_pass 110 = .ok (.return_, 1) := by decide +kernel
theorem dX3_pass_111 : decode cX3_pass 111 = .ok (.lload 4, 2) := by decide +kernel
theorem dX3_pass_113 : decode cX3_pass 113 = .ok (.lload_n 2, 1) := by decide +kernel
theorem dX3_pass_114 : decode cX3_pass 114 = .ok (.ladd, 1) := by decide +kernel
theorem dX3_pass_115 : decode cX3_pass 115 = .ok (.lconst 1, 1) := by decide +kernel
theorem dX3_pass_116 : decode cX3_pass 116 = .ok (.lsub, 1) := by decide +kernel
theorem dX3_pass_117 : decode cX3_pass 117 = .ok (.lload_n 2, 1) := by decide +kernel
theorem dX3_pass_118 : decode cX3_pass 118 = .ok (.ldiv, 1) := by decide +kernel
theorem dX3_pass_119 : decode cX3_pass 119 = .ok (.lstore 6, 2) := by decide +kernel
theorem dX3_pass_121 : decode cX3_pass 121 = .ok (.aload_n 0, 1) := by decide +kernel
theorem dX3_pass_122 : decode cX3_pass 122 = .ok (.dup, 1) := by decide +kernel
theorem dX3_pass_123 : decode cX3_pass 123 = .ok (.getfield 15, 3) := by decide +kernel
theorem dX3_pass_126 : decode cX3_pass 126 = .ok (.lload 6, 2) := by decide +kernel
theorem dX3_pass_128 : decode cX3_pass 128 = .ok (.lconst 1, 1) := by decide +kernel
theorem dX3_pass_129 : decode cX3_pass 129 = .ok (.lsub, 1) := by decide +kernel
theorem dX3_pass_130 : decode cX3_pass 130 = .ok (.lload 4, 2) := by decide +kernel
theorem dX3_pass_132 : decode cX3_pass 132 = .ok (.lmul, 1) := by decide +kernel
theorem dX3_pass_133 : decode cX3_pass 133 = .ok (.lload_n 2, 1) := by decide +kernel
theorem dX3_pass_134 : decode cX3_pass 134 = .ok (.lload 6, 2) := by decide +kernel
theorem dX3_pass_136 : decode cX3_pass 136 = .ok (.lload 6, 2) := by decide +kernel
theorem dX3_pass_138 : decode cX3_pass 138 = .ok (.lconst 1, 1) := by decide +kernel
theorem dX3_pass_139 : decode cX3_pass 139 = .ok (.lsub, 1) := by decide +kernel
theorem dX3_pass_140 : decode cX3_pass 140 = .ok (.lmul, 1) := by decide +kernel
theorem dX3_pass_141 : decode cX3_pass 141 = .ok (.ldc2_w 56, 3) := by decide +kernel
theorem dX3_pass_144 : decode cX3_pass 144 = .ok (.ldiv, 1) := by decide +kernel
theorem dX3_pass_145 : decode cX3_pass 145 = .ok (.lmul, 1) := by decide +kernel
theorem dX3_pass_146 : decode cX3_pass 146 = .ok (.lsub, 1) := by decide +kernel
theorem dX3_pass_147 : decode cX3_pass 147 = .ok (.ladd, 1) := by decide +kernel
theorem dX3_pass_148 : decode cX3_pass 148 = .ok (.putfield 15, 3) := by decide +kernel
theorem dX3_pass_151 : decode cX3_pass 151 = .ok (.aload_n 0, 1) := by decide +kernel
theorem dX3_pass_152 : decode cX3_pass 152 = .ok (.aload_n 1, 1) := by decide +kernel
theorem dX3_pass_153 : decode cX3_pass 153 = .ok (.getfield 42, 3) := by decide +kernel
theorem dX3_pass_156 : decode cX3_pass 156 = .ok (.lload 6, 2) := by decide +kernel
theorem dX3_pass_158 : decode cX3_pass 158 = .ok (.l2i, 1) := by decide +kernel
theorem dX3_pass_159 : decode cX3_pass 159 = .ok (.iadd, 1) := by decide +kernel
theorem dX3_pass_160 : decode cX3_pass 160 = .ok (.putfield 19, 3) := by decide +kernel
theorem dX3_pass_163 : decode cX3_pass 163 = .ok (.return_, 1) := by decide +kernel
theorem dX3_changeLaws_0 : decode cX3_changeLaws 0 = .ok (.aload_n 2, 1) := by decide +kernel
theorem dX3_changeLaws_1 : decode cX3_changeLaws 1 = .ok (.iload_n 3, 1) := by decide +kernel
theorem dX3_changeLaws_2 : decode cX3_changeLaws 2 = .ok (.aload 5, 2) := by decide +kernel
theorem dX3_changeLaws_4 : decode cX3_changeLaws 4 = .ok (.invokevirtual 58, 3) := by decide +kernel
theorem dX3_changeLaws_7 : decode cX3_changeLaws 7 = .ok (.aload_n 0, 1) := by decide +kernel
theorem dX3_changeLaws_8 : decode cX3_changeLaws 8 = .ok (.aload 5, 2) := by decide +kernel
theorem dX3_changeLaws_10 : decode cX3_changeLaws 10 = .ok (.invokevirtual 64, 3) := by decide +kernel
theorem dX3_changeLaws_13 : decode cX3_changeLaws 13 = .ok (.putfield 32, 3) := by decide +kernel
theorem dX3_changeLaws_16 : decode cX3_changeLaws 16 = .ok (.aload_n 0, 1) := by decide +kernel
theorem dX3_changeLaws_17 : decode cX3_changeLaws 17 = .ok (.bipush 30, 2) := by decide +kernel
theorem dX3_changeLaws_19 : decode cX3_changeLaws 19 = .ok (.aload_n 1, 1) := by decide +kernel
theorem dX3_changeLaws_20 : decode cX3_changeLaws 20 = .ok (.getfield 42, 3) := by decide +kernel
