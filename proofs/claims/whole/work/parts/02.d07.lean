theorem dX9_sidesOf_0 : decode cX9_sidesOf 0 = .ok (.iconst 0, 1) := by decide +kernel
theorem dX9_sidesOf_1 : decode cX9_sidesOf 1 = .ok (.istore 5, 2) := by decide +kernel
theorem dX9_sidesOf_3 : decode cX9_sidesOf 3 = .ok (.iconst 2, 1) := by decide +kernel
theorem dX9_sidesOf_4 : decode cX9_sidesOf 4 = .ok (.iload 5, 2) := by decide +kernel
theorem dX9_sidesOf_6 : decode cX9_sidesOf 6 = .ok (.imul, 1) := by decide +kernel
theorem dX9_sidesOf_7 : decode cX9_sidesOf 7 = .ok (.aload_n 0, 1) := by decide +kernel
theorem dX9_sidesOf_8 : decode cX9_sidesOf 8 = .ok (.getfield 13, 3) := by decide +kernel
theorem dX9_sidesOf_11 : decode cX9_sidesOf 11 = .ok (.iload_n 1, 1) := by decide +kernel
theorem dX9_sidesOf_12 : decode cX9_sidesOf 12 = .ok (.iaload, 1) := by decide +kernel
theorem dX9_sidesOf_13 : decode cX9_sidesOf 13 = .ok (.if_icmp .ge 77, 3) := by decide +kernel
theorem dX9_sidesOf_16 : decode cX9_sidesOf 16 = .ok (.aload_n 0, 1) := by decide +kernel
theorem dX9_sidesOf_17 : decode cX9_sidesOf 17 = .ok (.iload_n 2, 1) := by decide +kernel
theorem dX9_sidesOf_18 : decode cX9_sidesOf 18 = .ok (.iconst 0, 1) := by decide +kernel
theorem dX9_sidesOf_19 : decode cX9_sidesOf 19 = .ok (.iconst 0, 1) := by decide +kernel
theorem dX9_sidesOf_20 : decode cX9_sidesOf 20 = .ok (.invokevirtual 385, 3) := by decide +kernel
theorem dX9_sidesOf_23 : decode cX9_sidesOf 23 = .ok (.aload_n 0, 1) := by decide +kernel
theorem dX9_sidesOf_24 : decode cX9_sidesOf 24 = .ok (.getfield 65, 3) := by decide +kernel
theorem dX9_sidesOf_27 : decode cX9_sidesOf 27 = .ok (.iconst 2, 1) := by decide +kernel
theorem dX9_sidesOf_28 : decode cX9_sidesOf 28 = .ok (.iload 5, 2) := by decide +kernel
theorem dX9_sidesOf_30 : decode cX9_sidesOf 30 = .ok (.imul, 1) := by decide +kernel
theorem dX9_sidesOf_31 : decode cX9_sidesOf 31 = .ok (.aload_n 0, 1) := by decide +kernel
theorem dX9_sidesOf_32 : decode cX9_sidesOf 32 = .ok (.getfield 246, 3) := by decide +kernel
theorem dX9_sidesOf_35 : decode cX9_sidesOf 35 = .ok (.aload_n 0, 1) := by decide +kernel
theorem dX9_sidesOf_36 : decode cX9_sidesOf 36 = .ok (.getfield 243, 3) := by decide +kernel
theorem dX9_sidesOf_39 : decode cX9_sidesOf 39 = .ok (.ldiv, 1) := by decide +kernel
theorem dX9_sidesOf_40 : decode cX9_sidesOf 40 = .ok (.lastore, 1) := by decide +kernel
theorem dX9_sidesOf_41 : decode cX9_sidesOf 41 = .ok (.aload_n 0, 1) := by decide +kernel
theorem dX9_sidesOf_42 : decode cX9_sidesOf 42 = .ok (.iload_n 2, 1) := by decide +kernel
theorem dX9_sidesOf_43 : decode cX9_sidesOf 43 = .ok (.iconst 1, 1) := by decide +kernel
theorem dX9_sidesOf_44 : decode cX9_sidesOf 44 = .ok (.aload_n 0, 1) := by decide +kernel
theorem dX9_sidesOf_45 : decode cX9_sidesOf 45 = .ok (.getfield 16, 3) := by decide +kernel
theorem dX9_sidesOf_48 : decode cX9_sidesOf 48 = .ok (.bipush 60, 2) := by decide +kernel
theorem dX9_sidesOf_50 : decode cX9_sidesOf 50 = .ok (.iload_n 1, 1) := by decide +kernel
theorem dX9_sidesOf_51 : decode cX9_sidesOf 51 = .ok (.imul, 1) := by decide +kernel
theorem dX9_sidesOf_52 : decode cX9_sidesOf 52 = .ok (.iconst 2, 1) := by decide +kernel
theorem dX9_sidesOf_53 : decode cX9_sidesOf 53 = .ok (.iload 5, 2) := by decide +kernel
theorem dX9_sidesOf_55 : decode cX9_sidesOf 55 = .ok (.imul, 1) := by decide +kernel
theorem dX9_sidesOf_56 : decode cX9_sidesOf 56 = .ok (.iadd, 1) := by decide +kernel
theorem dX9_sidesOf_57 : decode cX9_sidesOf 57 = .ok (.iconst 1, 1) := by decide +kernel
theorem dX9_sidesOf_58 : decode cX9_sidesOf 58 = .ok (.iadd, 1) := by decide +kernel
theorem dX9_sidesOf_59 : decode cX9_sidesOf 59 = .ok (.laload, 1) := by decide +kernel
theorem dX9_sidesOf_60 : decode cX9_sidesOf 60 = .ok (.l2i, 1) := by decide +kernel
theorem dX9_sidesOf_61 : decode cX9_sidesOf 61 = .ok (.invokevirtual 385, 3) := by decide +kernel
theorem dX9_sidesOf_64 : decode cX9_sidesOf 64 = .ok (.aload_n 0, 1) := by decide +kernel
theorem dX9_sidesOf_65 : decode cX9_sidesOf 65 = .ok (.getfield 65, 3) := by decide +kernel
theorem dX9_sidesOf_68 : decode cX9_sidesOf 68 = .ok (.iconst 2, 1) := by decide +kernel
theorem dX9_sidesOf_69 : decode cX9_sidesOf 69 = .ok (.iload 5, 2) := by decide +kernel
theorem dX9_sidesOf_71 : decode cX9_sidesOf 71 = .ok (.imul, 1) := by decide +kernel
theorem dX9_sidesOf_72 : decode cX9_sidesOf 72 = .ok (.iconst 1, 1) := by decide +kernel
theorem dX9_sidesOf_73 : decode cX9_sidesOf 73 = .ok (.iadd, 1) := by decide +kernel
theorem dX9_sidesOf_74 : decode cX9_sidesOf 74 = .ok (.aload_n 0, 1) := by decide +kernel
theorem dX9_sidesOf_75 : decode cX9_sidesOf 75 = .ok (.getfield 246, 3) := by decide +kernel
theorem dX9_sidesOf_78 : decode cX9_sidesOf 78 = .ok (.aload_n 0, 1) := by decide +kernel
theorem dX9_sidesOf_79 : decode cX9_sidesOf 79 = .ok (.getfield 243, 3) := by decide +kernel
theorem dX9_sidesOf_82 : decode cX9_sidesOf 82 = .ok (.ldiv, 1) := by decide +kernel
theorem dX9_sidesOf_83 : decode cX9_sidesOf 83 = .ok (.lastore, 1) := by decide +kernel
theorem dX9_sidesOf_84 : decode cX9_sidesOf 84 = .ok (.iinc 5 1, 3) := by decide +kernel
theorem dX9_sidesOf_87 : decode cX9_sidesOf 87 = .ok (.goto (-84), 3) := by decide +kernel
theorem dX9_sidesOf_90 : decode cX9_sidesOf 90 = .ok (.aload_n 0, 1) := by decide +kernel
theorem dX9_sidesOf_91 : decode cX9_sidesOf 91 = .ok (.ldc2_w 415, 3) := by decide +kernel
theorem dX9_sidesOf_94 : decode cX9_sidesOf 94 = .ok (.putfield 408, 3) := by decide +kernel
theorem dX9_sidesOf_97 : decode cX9_sidesOf 97 = .ok (.aload_n 0, 1) := by decide +kernel
theorem dX9_sidesOf_98 : decode cX9_sidesOf 98 = .ok (.iload_n 1, 1) := by decide +kernel
theorem dX9_sidesOf_99 : decode cX9_sidesOf 99 = .ok (.iconst 0, 1) := by decide +kernel
theorem dX9_sidesOf_100 : decode cX9_sidesOf 100 = .ok (.iload_n 3, 1) := by decide +kernel
theorem dX9_sidesOf_101 : decode cX9_sidesOf 101 = .ok (.iload 4, 2) := by decide +kernel
theorem dX9_sidesOf_103 : decode cX9_sidesOf 103 = .ok (.lconst 0, 1) := by decide +kernel
theorem dX9_sidesOf_104 : decode cX9_sidesOf 104 = .ok (.lconst 0, 1) := by decide +kernel
theorem dX9_sidesOf_105 : decode cX9_sidesOf 105 = .ok (.invokevirtual 411, 3) := by decide +kernel
theorem dX9_sidesOf_108 : decode cX9_sidesOf 108 = .ok (.aload_n 0, 1) := by decide +kernel
theorem dX9_sidesOf_109 : decode cX9_sidesOf 109 = .ok (.getfield 408, 3) := by decide +kernel
theorem dX9_sidesOf_112 : decode cX9_sidesOf 112 = .ok (.lreturn, 1) := by decide +kernel
theorem dX9_sides_0 : decode cX9_sides 0 = .ok (.aload_n 0, 1) := by decide +kernel
theorem dX9_sides_1 : decode cX9_sides 1 = .ok (.iconst 0, 1) := by decide +kernel
theorem dX9_sides_2 : decode cX9_sides 2 = .ok (.putfield 71, 3) := by decide +kernel
theorem dX9_sides_5 : decode cX9_sides 5 = .ok (.aload_n 0, 1) := by decide +kernel
theorem dX9_sides_6 : decode cX9_sides 6 = .ok (.iload_n 1, 1) := by decide +kernel
theorem dX9_sides_7 : decode cX9_sides 7 = .ok (.iload_n 2, 1) := by decide +kernel
theorem dX9_sides_8 : decode cX9_sides 8 = .ok (.iload_n 3, 1) := by decide +kernel
theorem dX9_sides_9 : decode cX9_sides 9 = .ok (.invokevirtual 417, 3) := by decide +kernel
theorem dX9_sides_12 : decode cX9_sides 12 = .ok (.istore 4, 2) := by decide +kernel
theorem dX9_sides_14 : decode cX9_sides 14 = .ok (.iload 4, 2) := by decide +kernel
theorem dX9_sides_16 : decode cX9_sides 16 = .ok (.ifCond .eq 7, 3) := by decide +kernel
theorem dX9_sides_19 : decode cX9_sides 19 = .ok (.iload 4, 2) := by decide +kernel
theorem dX9_sides_21 : decode cX9_sides 21 = .ok (.i2l, 1) := by decide +kernel
theorem dX9_sides_22 : decode cX9_sides 22 = .ok (.lreturn, 1) := by decide +kernel
theorem dX9_sides_23 : decode cX9_sides 23 = .ok (.aload_n 0, 1) := by decide +kernel
theorem dX9_sides_24 : decode cX9_sides 24 = .ok (.iload_n 1, 1) := by decide +kernel
theorem dX9_sides_25 : decode cX9_sides 25 = .ok (.iload_n 2, 1) := by decide +kernel
theorem dX9_sides_26 : decode cX9_sides 26 = .ok (.iconst 0, 1) := by decide +kernel
theorem dX9_sides_27 : decode cX9_sides 27 = .ok (.iload_n 3, 1) := by decide +kernel
theorem dX9_sides_28 : decode cX9_sides 28 = .ok (.invokevirtual 420, 3) := by decide +kernel
theorem dX9_sides_31 : decode cX9_sides 31 = .ok (.lstore 5, 2) := by decide +kernel
theorem dX9_sides_33 : decode cX9_sides 33 = .ok (.aload_n 0, 1) := by decide +kernel
theorem dX9_sides_34 : decode cX9_sides 34 = .ok (.iload_n 1, 1) := by decide +kernel
theorem dX9_sides_35 : decode cX9_sides 35 = .ok (.iload_n 2, 1) := by decide +kernel
theorem dX9_sides_36 : decode cX9_sides 36 = .ok (.iconst 1, 1) := by decide +kernel
theorem dX9_sides_37 : decode cX9_sides 37 = .ok (.iload_n 3, 1) := by decide +kernel
theorem dX9_sides_38 : decode cX9_sides 38 = .ok (.invokevirtual 420, 3) := by decide +kernel
theorem dX9_sides_41 : decode cX9_sides 41 = .ok (.lstore 7, 2) := by decide +kernel
theorem dX9_sides_43 : decode cX9_sides 43 = .ok (.lload 7, 2) := by decide +kernel
theorem dX9_sides_45 : decode cX9_sides 45 = .ok (.lload 5, 2) := by decide +kernel
theorem dX9_sides_47 : decode cX9_sides 47 = .ok (.lcmp, 1) := by decide +kernel
theorem dX9_sides_48 : decode cX9_sides 48 = .ok (.ifCond .ge 8, 3) := by decide +kernel
theorem dX9_sides_51 : decode cX9_sides 51 = .ok (.lload 7, 2) := by decide +kernel
theorem dX9_sides_53 : decode cX9_sides 53 = .ok (.goto 5, 3) := by decide +kernel
theorem dX9_sides_56 : decode cX9_sides 56 = .ok (.lload 5, 2) := by decide +kernel
theorem dX9_sides_58 : decode cX9_sides 58 = .ok (.lreturn, 1) := by decide +kernel
theorem dX9_begins__0 : decode cX9_begins_ 0 = .ok (.aload_n 0, 1) := by decide +kernel
theorem dX9_begins__1 : decode cX9_begins_ 1 = .ok (.iconst 0, 1) := by decide +kernel
theorem dX9_begins__2 : decode cX9_begins_ 2 = .ok (.putfield 71, 3) := by decide +kernel
theorem dX9_begins__5 : decode cX9_begins_ 5 = .ok (.aload_n 0, 1) := by decide +kernel
theorem dX9_begins__6 : decode cX9_begins_ 6 = .ok (.iload_n 1, 1) := by decide +kernel
theorem dX9_begins__7 : decode cX9_begins_ 7 = .ok (.iload_n 2, 1) := by decide +kernel
theorem dX9_begins__8 : decode cX9_begins_ 8 = .ok (.iload_n 3, 1) := by decide +kernel
theorem dX9_begins__9 : decode cX9_begins_ 9 = .ok (.invokevirtual 417, 3) := by decide +kernel
theorem dX9_begins__12 : decode cX9_begins_ 12 = .ok (.istore 4, 2) := by decide +kernel
theorem dX9_begins__14 : decode cX9_begins_ 14 = .ok (.iload 4, 2) := by decide +kernel
theorem dX9_begins__16 : decode cX9_begins_ 16 = .ok (.ifCond .eq 6, 3) := by decide +kernel
theorem dX9_begins__19 : decode cX9_begins_ 19 = .ok (.iload 4, 2) := by decide +kernel
theorem dX9_begins__21 : decode cX9_begins_ 21 = .ok (.ireturn, 1) := by decide +kernel
theorem dX9_begins__22 : decode cX9_begins_ 22 = .ok (.aload_n 0, 1) := by decide +kernel
theorem dX9_begins__23 : decode cX9_begins_ 23 = .ok (.iload_n 1, 1) := by decide +kernel
theorem dX9_begins__24 : decode cX9_begins_ 24 = .ok (.iload_n 2, 1) := by decide +kernel
theorem dX9_begins__25 : decode cX9_begins_ 25 = .ok (.iconst 0, 1) := by decide +kernel
theorem dX9_begins__26 : decode cX9_begins_ 26 = .ok (.iload_n 3, 1) := by decide +kernel
theorem dX9_begins__27 : decode cX9_begins_ 27 = .ok (.invokevirtual 420, 3) := by decide +kernel
theorem dX9_begins__30 : decode cX9_begins_ 30 = .ok (.lstore 5, 2) := by decide +kernel
theorem dX9_begins__32 : decode cX9_begins_ 32 = .ok (.aload_n 0, 1) := by decide +kernel
theorem dX9_begins__33 : decode cX9_begins_ 33 = .ok (.iload_n 1, 1) := by decide +kernel
theorem dX9_begins__34 : decode cX9_begins_ 34 = .ok (.iload_n 2, 1) := by decide +kernel
theorem dX9_begins__35 : decode cX9_begins_ 35 = .ok (.iconst 1, 1) := by decide +kernel
theorem dX9_begins__36 : decode cX9_begins_ 36 = .ok (.iload_n 3, 1) := by decide +kernel
theorem dX9_begins__37 : decode cX9_begins_ 37 = .ok (.invokevirtual 420, 3) := by decide +kernel
theorem dX9_begins__40 : decode cX9_begins_ 40 = .ok (.lload 5, 2) := by decide +kernel
theorem dX9_begins__42 : decode cX9_begins_ 42 = .ok (.lcmp, 1) := by decide +kernel
theorem dX9_begins__43 : decode cX9_begins_ 43 = .ok (.ifCond .ge 7, 3) := by decide +kernel
theorem dX9_begins__46 : decode cX9_begins_ 46 = .ok (.iconst 1, 1) := by decide +kernel
theorem dX9_begins__47 : decode cX9_begins_ 47 = .ok (.goto 4, 3) := by decide +kernel
theorem dX9_begins__50 : decode cX9_begins_ 50 = .ok (.iconst 0, 1) := by decide +kernel
theorem dX9_begins__51 : decode cX9_begins_ 51 = .ok (.ireturn, 1) := by decide +kernel
theorem dX9_whyNotTurn_0 : decode cX9_whyNotTurn 0 = .ok (.iload_n 1, 1) := by decide +kernel
theorem dX9_whyNotTurn_1 : decode cX9_whyNotTurn 1 = .ok (.invokestatic 80, 3) := by decide +kernel
theorem dX9_whyNotTurn_4 : decode cX9_whyNotTurn 4 = .ok (.ifCond .eq 22, 3) := by decide +kernel
theorem dX9_whyNotTurn_7 : decode cX9_whyNotTurn 7 = .ok (.iload_n 2, 1) := by decide +kernel
theorem dX9_whyNotTurn_8 : decode cX9_whyNotTurn 8 = .ok (.i2l, 1) := by decide +kernel
theorem dX9_whyNotTurn_9 : decode cX9_whyNotTurn 9 = .ok (.lconst 0, 1) := by decide +kernel
theorem dX9_whyNotTurn_10 : decode cX9_whyNotTurn 10 = .ok (.ldc2_w 321, 3) := by decide +kernel
theorem dX9_whyNotTurn_13 : decode cX9_whyNotTurn 13 = .ok (.invokestatic 76, 3) := by decide +kernel
theorem dX9_whyNotTurn_16 : decode cX9_whyNotTurn 16 = .ok (.ifCond .eq 10, 3) := by decide +kernel
theorem dX9_whyNotTurn_19 : decode cX9_whyNotTurn 19 = .ok (.aload_n 0, 1) := by decide +kernel
theorem dX9_whyNotTurn_20 : decode cX9_whyNotTurn 20 = .ok (.invokevirtual 297, 3) := by decide +kernel
theorem dX9_whyNotTurn_23 : decode cX9_whyNotTurn 23 = .ok (.ifCond .ne 6, 3) := by decide +kernel
theorem dX9_whyNotTurn_26 : decode cX9_whyNotTurn 26 = .ok (.bipush (-2), 2) := by decide +kernel
theorem dX9_whyNotTurn_28 : decode cX9_whyNotTurn 28 = .ok (.ireturn, 1) := by decide +kernel
theorem dX9_whyNotTurn_29 : decode cX9_whyNotTurn 29 = .ok (.aload_n 0, 1) := by decide +kernel
theorem dX9_whyNotTurn_30 : decode cX9_whyNotTurn 30 = .ok (.getfield 7, 3) := by decide +kernel
theorem dX9_whyNotTurn_33 : decode cX9_whyNotTurn 33 = .ok (.iload_n 1, 1) := by decide +kernel
theorem dX9_whyNotTurn_34 : decode cX9_whyNotTurn 34 = .ok (.iaload, 1) := by decide +kernel
theorem dX9_whyNotTurn_35 : decode cX9_whyNotTurn 35 = .ok (.iconst (-1), 1) := by decide +kernel
theorem dX9_whyNotTurn_36 : decode cX9_whyNotTurn 36 = .ok (.if_icmp .ne 6, 3) := by decide +kernel
theorem dX9_whyNotTurn_39 : decode cX9_whyNotTurn 39 = .ok (.bipush (-6), 2) := by decide +kernel
theorem dX9_whyNotTurn_41 : decode cX9_whyNotTurn 41 = .ok (.ireturn, 1) := by decide +kernel
theorem dX9_whyNotTurn_42 : decode cX9_whyNotTurn 42 = .ok (.aload_n 0, 1) := by decide +kernel
theorem dX9_whyNotTurn_43 : decode cX9_whyNotTurn 43 = .ok (.getfield 13, 3) := by decide +kernel
theorem dX9_whyNotTurn_46 : decode cX9_whyNotTurn 46 = .ok (.iload_n 1, 1) := by decide +kernel
theorem dX9_whyNotTurn_47 : decode cX9_whyNotTurn 47 = .ok (.iaload, 1) := by decide +kernel
theorem dX9_whyNotTurn_48 : decode cX9_whyNotTurn 48 = .ok (.iconst 2, 1) := by decide +kernel
theorem dX9_whyNotTurn_49 : decode cX9_whyNotTurn 49 = .ok (.irem, 1) := by decide +kernel
theorem dX9_whyNotTurn_50 : decode cX9_whyNotTurn 50 = .ok (.ifCond .eq 6, 3) := by decide +kernel
theorem dX9_whyNotTurn_53 : decode cX9_whyNotTurn 53 = .ok (.bipush (-2), 2) := by decide +kernel
theorem dX9_whyNotTurn_55 : decode cX9_whyNotTurn 55 = .ok (.ireturn, 1) := by decide +kernel
theorem dX9_whyNotTurn_56 : decode cX9_whyNotTurn 56 = .ok (.iconst 0, 1) := by decide +kernel
theorem dX9_whyNotTurn_57 : decode cX9_whyNotTurn 57 = .ok (.istore_n 3, 1) := by decide +kernel
theorem dX9_whyNotTurn_58 : decode cX9_whyNotTurn 58 = .ok (.iload_n 3, 1) := by decide +kernel
theorem dX9_whyNotTurn_59 : decode cX9_whyNotTurn 59 = .ok (.aload_n 0, 1) := by decide +kernel
theorem dX9_whyNotTurn_60 : decode cX9_whyNotTurn 60 = .ok (.getfield 13, 3) := by decide +kernel
theorem dX9_whyNotTurn_63 : decode cX9_whyNotTurn 63 = .ok (.iload_n 1, 1) := by decide +kernel
theorem dX9_whyNotTurn_64 : decode cX9_whyNotTurn 64 = .ok (.iaload, 1) := by decide +kernel
theorem dX9_whyNotTurn_65 : decode cX9_whyNotTurn 65 = .ok (.if_icmp .ge 33, 3) := by decide +kernel
theorem dX9_whyNotTurn_68 : decode cX9_whyNotTurn 68 = .ok (.aload_n 0, 1) := by decide +kernel
theorem dX9_whyNotTurn_69 : decode cX9_whyNotTurn 69 = .ok (.getfield 16, 3) := by decide +kernel
theorem dX9_whyNotTurn_72 : decode cX9_whyNotTurn 72 = .ok (.bipush 60, 2) := by decide +kernel
theorem dX9_whyNotTurn_74 : decode cX9_whyNotTurn 74 = .ok (.iload_n 1, 1) := by decide +kernel
theorem dX9_whyNotTurn_75 : decode cX9_whyNotTurn 75 = .ok (.imul, 1) := by decide +kernel
theorem dX9_whyNotTurn_76 : decode cX9_whyNotTurn 76 = .ok (.iload_n 3, 1) := by decide +kernel
theorem dX9_whyNotTurn_77 : decode cX9_whyNotTurn 77 = .ok (.iadd, 1) := by decide +kernel
theorem dX9_whyNotTurn_78 : decode cX9_whyNotTurn 78 = .ok (.laload, 1) := by decide +kernel
theorem dX9_whyNotTurn_79 : decode cX9_whyNotTurn 79 = .ok (.lconst 0, 1) := by decide +kernel
theorem dX9_whyNotTurn_80 : decode cX9_whyNotTurn 80 = .ok (.ldc2_w 321, 3) := by decide +kernel
theorem dX9_whyNotTurn_83 : decode cX9_whyNotTurn 83 = .ok (.invokestatic 76, 3) := by decide +kernel
theorem dX9_whyNotTurn_86 : decode cX9_whyNotTurn 86 = .ok (.ifCond .ne 6, 3) := by decide +kernel
theorem dX9_whyNotTurn_89 : decode cX9_whyNotTurn 89 = .ok (.bipush (-2), 2) := by decide +kernel
theorem dX9_whyNotTurn_91 : decode cX9_whyNotTurn 91 = .ok (.ireturn, 1) := by decide +kernel
theorem dX9_whyNotTurn_92 : decode cX9_whyNotTurn 92 = .ok (.iinc 3 1, 3) := by decide +kernel
theorem dX9_whyNotTurn_95 : decode cX9_whyNotTurn 95 = .ok (.goto (-37), 3) := by decide +kernel
theorem dX9_whyNotTurn_98 : decode cX9_whyNotTurn 98 = .ok (.iconst 0, 1) := by decide +kernel
theorem dX9_whyNotTurn_99 : decode cX9_whyNotTurn 99 = .ok (.ireturn, 1) := by decide +kernel
theorem dX9_hours_0 : decode cX9_hours 0 = .ok (.aload_n 0, 1) := by decide +kernel
theorem dX9_hours_1 : decode cX9_hours 1 = .ok (.getfield 13, 3) := by decide +kernel
theorem dX9_hours_4 : decode cX9_hours 4 = .ok (.iload_n 1, 1) := by decide +kernel
theorem dX9_hours_5 : decode cX9_hours 5 = .ok (.iaload, 1) := by decide +kernel
theorem dX9_hours_6 : decode cX9_hours 6 = .ok (.iconst 2, 1) := by decide +kernel
theorem dX9_hours_7 : decode cX9_hours 7 = .ok (.idiv, 1) := by decide +kernel
theorem dX9_hours_8 : decode cX9_hours 8 = .ok (.ireturn, 1) := by decide +kernel
theorem dX9_leftBy_0 : decode cX9_leftBy 0 = .ok (.aload_n 0, 1) := by decide +kernel
theorem dX9_leftBy_1 : decode cX9_leftBy 1 = .ok (.getfield 16, 3) := by decide +kernel
theorem dX9_leftBy_4 : decode cX9_leftBy 4 = .ok (.bipush 60, 2) := by decide +kernel
theorem dX9_leftBy_6 : decode cX9_leftBy 6 = .ok (.iload_n 1, 1) := by decide +kernel
theorem dX9_leftBy_7 : decode cX9_leftBy 7 = .ok (.imul, 1) := by decide +kernel
theorem dX9_leftBy_8 : decode cX9_leftBy 8 = .ok (.iconst 2, 1) := by decide +kernel
theorem dX9_leftBy_9 : decode cX9_leftBy 9 = .ok (.iload_n 2, 1) := by decide +kernel
theorem dX9_leftBy_10 : decode cX9_leftBy 10 = .ok (.imul, 1) := by decide +kernel
theorem dX9_leftBy_11 : decode cX9_leftBy 11 = .ok (.iadd, 1) := by decide +kernel
theorem dX9_leftBy_12 : decode cX9_leftBy 12 = .ok (.laload, 1) := by decide +kernel
theorem dX9_leftBy_13 : decode cX9_leftBy 13 = .ok (.l2i, 1) := by decide +kernel
theorem dX9_leftBy_14 : decode cX9_leftBy 14 = .ok (.istore 4, 2) := by decide +kernel
theorem dX9_leftBy_16 : decode cX9_leftBy 16 = .ok (.aload_n 0, 1) := by decide +kernel
theorem dX9_leftBy_17 : decode cX9_leftBy 17 = .ok (.getfield 16, 3) := by decide +kernel
theorem dX9_leftBy_20 : decode cX9_leftBy 20 = .ok (.bipush 60, 2) := by decide +kernel
theorem dX9_leftBy_22 : decode cX9_leftBy 22 = .ok (.iload_n 1, 1) := by decide +kernel
theorem dX9_leftBy_23 : decode cX9_leftBy 23 = .ok (.imul, 1) := by decide +kernel
theorem dX9_leftBy_24 : decode cX9_leftBy 24 = .ok (.iconst 2, 1) := by decide +kernel
theorem dX9_leftBy_25 : decode cX9_leftBy 25 = .ok (.iload_n 2, 1) := by decide +kernel
theorem dX9_leftBy_26 : decode cX9_leftBy 26 = .ok (.imul, 1) := by decide +kernel
theorem dX9_leftBy_27 : decode cX9_leftBy 27 = .ok (.iadd, 1) := by decide +kernel
theorem dX9_leftBy_28 : decode cX9_leftBy 28 = .ok (.iconst 1, 1) := by decide +kernel
theorem dX9_leftBy_29 : decode cX9_leftBy 29 = .ok (.iadd, 1) := by decide +kernel
theorem dX9_leftBy_30 : decode cX9_leftBy 30 = .ok (.laload, 1) := by decide +kernel
theorem dX9_leftBy_31 : decode cX9_leftBy 31 = .ok (.l2i, 1) := by decide +kernel
theorem dX9_leftBy_32 : decode cX9_leftBy 32 = .ok (.istore 5, 2) := by decide +kernel
theorem dX9_leftBy_34 : decode cX9_leftBy 34 = .ok (.iconst 0, 1) := by decide +kernel
theorem dX9_leftBy_35 : decode cX9_leftBy 35 = .ok (.istore 6, 2) := by decide +kernel
theorem dX9_leftBy_37 : decode cX9_leftBy 37 = .ok (.iload 6, 2) := by decide +kernel
theorem dX9_leftBy_39 : decode cX9_leftBy 39 = .ok (.aload_n 0, 1) := by decide +kernel
theorem dX9_leftBy_40 : decode cX9_leftBy 40 = .ok (.getfield 34, 3) := by decide +kernel
theorem dX9_leftBy_43 : decode cX9_leftBy 43 = .ok (.iconst 3, 1) := by decide +kernel
theorem dX9_leftBy_44 : decode cX9_leftBy 44 = .ok (.iaload, 1) := by decide +kernel
theorem dX9_leftBy_45 : decode cX9_leftBy 45 = .ok (.if_icmp .ge 45, 3) := by decide +kernel
theorem dX9_leftBy_48 : decode cX9_leftBy 48 = .ok (.iload_n 3, 1) := by decide +kernel
theorem dX9_leftBy_49 : decode cX9_leftBy 49 = .ok (.iload 6, 2) := by decide +kernel
theorem dX9_leftBy_51 : decode cX9_leftBy 51 = .ok (.invokestatic 424, 3) := by decide +kernel
theorem dX9_leftBy_54 : decode cX9_leftBy 54 = .ok (.ifCond .eq 18, 3) := by decide +kernel
theorem dX9_leftBy_57 : decode cX9_leftBy 57 = .ok (.iload 4, 2) := by decide +kernel
theorem dX9_leftBy_59 : decode cX9_leftBy 59 = .ok (.aload_n 0, 1) := by decide +kernel
theorem dX9_leftBy_60 : decode cX9_leftBy 60 = .ok (.getfield 43, 3) := by decide +kernel
theorem dX9_leftBy_63 : decode cX9_leftBy 63 = .ok (.iload 6, 2) := by decide +kernel
theorem dX9_leftBy_65 : decode cX9_leftBy 65 = .ok (.iaload, 1) := by decide +kernel
theorem dX9_leftBy_66 : decode cX9_leftBy 66 = .ok (.isub, 1) := by decide +kernel
theorem dX9_leftBy_67 : decode cX9_leftBy 67 = .ok (.istore 4, 2) := by decide +kernel
theorem dX9_leftBy_69 : decode cX9_leftBy 69 = .ok (.goto 15, 3) := by decide +kernel
theorem dX9_leftBy_72 : decode cX9_leftBy 72 = .ok (.iload 5, 2) := by decide +kernel
theorem dX9_leftBy_74 : decode cX9_leftBy 74 = .ok (.aload_n 0, 1) := by decide +kernel
theorem dX9_leftBy_75 : decode cX9_leftBy 75 = .ok (.getfield 43, 3) := by decide +kernel
theorem dX9_leftBy_78 : decode cX9_leftBy 78 = .ok (.iload 6, 2) := by decide +kernel
theorem dX9_leftBy_80 : decode cX9_leftBy 80 = .ok (.iaload, 1) := by decide +kernel
theorem dX9_leftBy_81 : decode cX9_leftBy 81 = .ok (.isub, 1) := by decide +kernel
theorem dX9_leftBy_82 : decode cX9_leftBy 82 = .ok (.istore 5, 2) := by decide +kernel
theorem dX9_leftBy_84 : decode cX9_leftBy 84 = .ok (.iinc 6 1, 3) := by decide +kernel
theorem dX9_leftBy_87 : decode cX9_leftBy 87 = .ok (.goto (-50), 3) := by decide +kernel
theorem dX9_leftBy_90 : decode cX9_leftBy 90 = .ok (.iload 4, 2) := by decide +kernel
theorem dX9_leftBy_92 : decode cX9_leftBy 92 = .ok (.ifCond .le 8, 3) := by decide +kernel
theorem dX9_leftBy_95 : decode cX9_leftBy 95 = .ok (.iload 4, 2) := by decide +kernel
theorem dX9_leftBy_97 : decode cX9_leftBy 97 = .ok (.goto 4, 3) := by decide +kernel
theorem dX9_leftBy_100 : decode cX9_leftBy 100 = .ok (.iconst 0, 1) := by decide +kernel
theorem dX9_leftBy_101 : decode cX9_leftBy 101 = .ok (.iload 5, 2) := by decide +kernel
theorem dX9_leftBy_103 : decode cX9_leftBy 103 = .ok (.ifCond .le 8, 3) := by decide +kernel
theorem dX9_leftBy_106 : decode cX9_leftBy 106 = .ok (.iload 5, 2) := by decide +kernel
theorem dX9_leftBy_108 : decode cX9_leftBy 108 = .ok (.goto 4, 3) := by decide +kernel
theorem dX9_leftBy_111 : decode cX9_leftBy 111 = .ok (.iconst 0, 1) := by decide +kernel
theorem dX9_leftBy_112 : decode cX9_leftBy 112 = .ok (.iadd, 1) := by decide +kernel
theorem dX9_leftBy_113 : decode cX9_leftBy 113 = .ok (.ireturn, 1) := by decide +kernel
theorem dX9_onBy_0 : decode cX9_onBy 0 = .ok (.iload_n 1, 1) := by decide +kernel
theorem dX9_onBy_1 : decode cX9_onBy 1 = .ok (.iconst 1, 1) := by decide +kernel
theorem dX9_onBy_2 : decode cX9_onBy 2 = .ok (.iadd, 1) := by decide +kernel
theorem dX9_onBy_3 : decode cX9_onBy 3 = .ok (.iload_n 2, 1) := by decide +kernel
theorem dX9_onBy_4 : decode cX9_onBy 4 = .ok (.if_icmp .ne 7, 3) := by decide +kernel
theorem dX9_onBy_7 : decode cX9_onBy 7 = .ok (.iconst 0, 1) := by decide +kernel
theorem dX9_onBy_8 : decode cX9_onBy 8 = .ok (.goto 28, 3) := by decide +kernel
theorem dX9_onBy_11 : decode cX9_onBy 11 = .ok (.iload 4, 2) := by decide +kernel
theorem dX9_onBy_13 : decode cX9_onBy 13 = .ok (.iload_n 3, 1) := by decide +kernel
theorem dX9_onBy_14 : decode cX9_onBy 14 = .ok (.iload 5, 2) := by decide +kernel
theorem dX9_onBy_16 : decode cX9_onBy 16 = .ok (.ixor, 1) := by decide +kernel
theorem dX9_onBy_17 : decode cX9_onBy 17 = .ok (.invokestatic 427, 3) := by decide +kernel
theorem dX9_onBy_20 : decode cX9_onBy 20 = .ok (.imul, 1) := by decide +kernel
theorem dX9_onBy_21 : decode cX9_onBy 21 = .ok (.aload_n 0, 1) := by decide +kernel
theorem dX9_onBy_22 : decode cX9_onBy 22 = .ok (.getfield 68, 3) := by decide +kernel
theorem dX9_onBy_25 : decode cX9_onBy 25 = .ok (.bipush 16, 2) := by decide +kernel
theorem dX9_onBy_27 : decode cX9_onBy 27 = .ok (.iload_n 1, 1) := by decide +kernel
theorem dX9_onBy_28 : decode cX9_onBy 28 = .ok (.iconst 1, 1) := by decide +kernel
theorem dX9_onBy_29 : decode cX9_onBy 29 = .ok (.iadd, 1) := by decide +kernel
theorem dX9_onBy_30 : decode cX9_onBy 30 = .ok (.imul, 1) := by decide +kernel
theorem dX9_onBy_31 : decode cX9_onBy 31 = .ok (.iload 5, 2) := by decide +kernel
theorem dX9_onBy_33 : decode cX9_onBy 33 = .ok (.iadd, 1) := by decide +kernel
theorem dX9_onBy_34 : decode cX9_onBy 34 = .ok (.iaload, 1) := by decide +kernel
theorem dX9_onBy_35 : decode cX9_onBy 35 = .ok (.iadd, 1) := by decide +kernel
theorem dX9_onBy_36 : decode cX9_onBy 36 = .ok (.ireturn, 1) := by decide +kernel
theorem dX9_laysTurn_0 : decode cX9_laysTurn 0 = .ok (.iconst 1, 1) := by decide +kernel
theorem dX9_laysTurn_1 : decode cX9_laysTurn 1 = .ok (.aload_n 0, 1) := by decide +kernel
theorem dX9_laysTurn_2 : decode cX9_laysTurn 2 = .ok (.getfield 34, 3) := by decide +kernel
theorem dX9_laysTurn_5 : decode cX9_laysTurn 5 = .ok (.iconst 3, 1) := by decide +kernel
theorem dX9_laysTurn_6 : decode cX9_laysTurn 6 = .ok (.iaload, 1) := by decide +kernel
theorem dX9_laysTurn_7 : decode cX9_laysTurn 7 = .ok (.ishl, 1) := by decide +kernel
theorem dX9_laysTurn_8 : decode cX9_laysTurn 8 = .ok (.istore_n 3, 1) := by decide +kernel
theorem dX9_laysTurn_9 : decode cX9_laysTurn 9 = .ok (.aload_n 0, 1) := by decide +kernel
theorem dX9_laysTurn_10 : decode cX9_laysTurn 10 = .ok (.iload_n 1, 1) := by decide +kernel
theorem dX9_laysTurn_11 : decode cX9_laysTurn 11 = .ok (.invokevirtual 430, 3) := by decide +kernel
theorem dX9_laysTurn_14 : decode cX9_laysTurn 14 = .ok (.iconst 1, 1) := by decide +kernel
theorem dX9_laysTurn_15 : decode cX9_laysTurn 15 = .ok (.isub, 1) := by decide +kernel
theorem dX9_laysTurn_16 : decode cX9_laysTurn 16 = .ok (.istore 4, 2) := by decide +kernel
theorem dX9_laysTurn_18 : decode cX9_laysTurn 18 = .ok (.iload 4, 2) := by decide +kernel
theorem dX9_laysTurn_20 : decode cX9_laysTurn 20 = .ok (.ifCond .lt 113, 3) := by decide +kernel
theorem dX9_laysTurn_23 : decode cX9_laysTurn 23 = .ok (.iconst 0, 1) := by decide +kernel
theorem dX9_laysTurn_24 : decode cX9_laysTurn 24 = .ok (.istore 5, 2) := by decide +kernel
theorem dX9_laysTurn_26 : decode cX9_laysTurn 26 = .ok (.iload 5, 2) := by decide +kernel
theorem dX9_laysTurn_28 : decode cX9_laysTurn 28 = .ok (.iload_n 3, 1) := by decide +kernel
theorem dX9_laysTurn_29 : decode cX9_laysTurn 29 = .ok (.if_icmp .ge 98, 3) := by decide +kernel
theorem dX9_laysTurn_32 : decode cX9_laysTurn 32 = .ok (.ldc_w 340, 3) := by decide +kernel
theorem dX9_laysTurn_35 : decode cX9_laysTurn 35 = .ok (.istore 6, 2) := by decide +kernel
theorem dX9_laysTurn_37 : decode cX9_laysTurn 37 = .ok (.iconst 0, 1) := by decide +kernel
theorem dX9_laysTurn_38 : decode cX9_laysTurn 38 = .ok (.istore 7, 2) := by decide +kernel
theorem dX9_laysTurn_40 : decode cX9_laysTurn 40 = .ok (.iload 7, 2) := by decide +kernel
theorem dX9_laysTurn_42 : decode cX9_laysTurn 42 = .ok (.iload_n 3, 1) := by decide +kernel
theorem dX9_laysTurn_43 : decode cX9_laysTurn 43 = .ok (.if_icmp .ge 53, 3) := by decide +kernel
theorem dX9_laysTurn_46 : decode cX9_laysTurn 46 = .ok (.aload_n 0, 1) := by decide +kernel
theorem dX9_laysTurn_47 : decode cX9_laysTurn 47 = .ok (.iload 4, 2) := by decide +kernel
theorem dX9_laysTurn_49 : decode cX9_laysTurn 49 = .ok (.aload_n 0, 1) := by decide +kernel
theorem dX9_laysTurn_50 : decode cX9_laysTurn 50 = .ok (.iload_n 1, 1) := by decide +kernel
theorem dX9_laysTurn_51 : decode cX9_laysTurn 51 = .ok (.invokevirtual 430, 3) := by decide +kernel
theorem dX9_laysTurn_54 : decode cX9_laysTurn 54 = .ok (.iload 5, 2) := by decide +kernel
theorem dX9_laysTurn_56 : decode cX9_laysTurn 56 = .ok (.iload_n 2, 1) := by decide +kernel
theorem dX9_laysTurn_57 : decode cX9_laysTurn 57 = .ok (.iload 7, 2) := by decide +kernel
theorem dX9_laysTurn_59 : decode cX9_laysTurn 59 = .ok (.invokevirtual 433, 3) := by decide +kernel
theorem dX9_laysTurn_62 : decode cX9_laysTurn 62 = .ok (.iload 6, 2) := by decide +kernel
theorem dX9_laysTurn_64 : decode cX9_laysTurn 64 = .ok (.if_icmp .ge 22, 3) := by decide +kernel
theorem dX9_laysTurn_67 : decode cX9_laysTurn 67 = .ok (.aload_n 0, 1) := by decide +kernel
theorem dX9_laysTurn_68 : decode cX9_laysTurn 68 = .ok (.iload 4, 2) := by decide +kernel
theorem dX9_laysTurn_70 : decode cX9_laysTurn 70 = .ok (.aload_n 0, 1) := by decide +kernel
theorem dX9_laysTurn_71 : decode cX9_laysTurn 71 = .ok (.iload_n 1, 1) := by decide +kernel
theorem dX9_laysTurn_72 : decode cX9_laysTurn 72 = .ok (.invokevirtual 430, 3) := by decide +kernel
theorem dX9_laysTurn_75 : decode cX9_laysTurn 75 = .ok (.iload 5, 2) := by decide +kernel
theorem dX9_laysTurn_77 : decode cX9_laysTurn 77 = .ok (.iload_n 2, 1) := by decide +kernel
theorem dX9_laysTurn_78 : decode cX9_laysTurn 78 = .ok (.iload 7, 2) := by decide +kernel
theorem dX9_laysTurn_80 : decode cX9_laysTurn 80 = .ok (.invokevirtual 433, 3) := by decide +kernel
theorem dX9_laysTurn_83 : decode cX9_laysTurn 83 = .ok (.goto 5, 3) := by decide +kernel
theorem dX9_laysTurn_86 : decode cX9_laysTurn 86 = .ok (.iload 6, 2) := by decide +kernel
theorem dX9_laysTurn_88 : decode cX9_laysTurn 88 = .ok (.istore 6, 2) := by decide +kernel
theorem dX9_laysTurn_90 : decode cX9_laysTurn 90 = .ok (.iinc 7 1, 3) := by decide +kernel
theorem dX9_laysTurn_93 : decode cX9_laysTurn 93 = .ok (.goto (-53), 3) := by decide +kernel
theorem dX9_laysTurn_96 : decode cX9_laysTurn 96 = .ok (.aload_n 0, 1) := by decide +kernel
theorem dX9_laysTurn_97 : decode cX9_laysTurn 97 = .ok (.getfield 68, 3) := by decide +kernel
theorem dX9_laysTurn_100 : decode cX9_laysTurn 100 = .ok (.bipush 16, 2) := by decide +kernel
theorem dX9_laysTurn_102 : decode cX9_laysTurn 102 = .ok (.iload 4, 2) := by decide +kernel
theorem dX9_laysTurn_104 : decode cX9_laysTurn 104 = .ok (.imul, 1) := by decide +kernel
theorem dX9_laysTurn_105 : decode cX9_laysTurn 105 = .ok (.iload 5, 2) := by decide +kernel
theorem dX9_laysTurn_107 : decode cX9_laysTurn 107 = .ok (.iadd, 1) := by decide +kernel
theorem dX9_laysTurn_108 : decode cX9_laysTurn 108 = .ok (.aload_n 0, 1) := by decide +kernel
theorem dX9_laysTurn_109 : decode cX9_laysTurn 109 = .ok (.iload_n 1, 1) := by decide +kernel
theorem dX9_laysTurn_110 : decode cX9_laysTurn 110 = .ok (.iload 4, 2) := by decide +kernel
theorem dX9_laysTurn_112 : decode cX9_laysTurn 112 = .ok (.iload 5, 2) := by decide +kernel
theorem dX9_laysTurn_114 : decode cX9_laysTurn 114 = .ok (.invokevirtual 437, 3) := by decide +kernel
theorem dX9_laysTurn_117 : decode cX9_laysTurn 117 = .ok (.iload 6, 2) := by decide +kernel
theorem dX9_laysTurn_119 : decode cX9_laysTurn 119 = .ok (.iadd, 1) := by decide +kernel
theorem dX9_laysTurn_120 : decode cX9_laysTurn 120 = .ok (.iastore, 1) := by decide +kernel
theorem dX9_laysTurn_121 : decode cX9_laysTurn 121 = .ok (.iinc 5 1, 3) := by decide +kernel
theorem dX9_laysTurn_124 : decode cX9_laysTurn 124 = .ok (.goto (-98), 3) := by decide +kernel
theorem dX9_laysTurn_127 : decode cX9_laysTurn 127 = .ok (.iinc 4 (-1), 3) := by decide +kernel
theorem dX9_laysTurn_130 : decode cX9_laysTurn 130 = .ok (.goto (-112), 3) := by decide +kernel
theorem dX9_laysTurn_133 : decode cX9_laysTurn 133 = .ok (.return_, 1) := by decide +kernel
theorem dX9_turnOf_0 : decode cX9_turnOf 0 = .ok (.aload_n 0, 1) := by decide +kernel
theorem dX9_turnOf_1 : decode cX9_turnOf 1 = .ok (.iload_n 1, 1) := by decide +kernel
theorem dX9_turnOf_2 : decode cX9_turnOf 2 = .ok (.invokevirtual 430, 3) := by decide +kernel
theorem dX9_turnOf_5 : decode cX9_turnOf 5 = .ok (.ifCond .ne 7, 3) := by decide +kernel
theorem dX9_turnOf_8 : decode cX9_turnOf 8 = .ok (.iconst 0, 1) := by decide +kernel
theorem dX9_turnOf_9 : decode cX9_turnOf 9 = .ok (.goto 6, 3) := by decide +kernel
theorem dX9_turnOf_12 : decode cX9_turnOf 12 = .ok (.ldc_w 340, 3) := by decide +kernel
theorem dX9_turnOf_15 : decode cX9_turnOf 15 = .ok (.istore_n 2, 1) := by decide +kernel
theorem dX9_turnOf_16 : decode cX9_turnOf 16 = .ok (.iconst 0, 1) := by decide +kernel
theorem dX9_turnOf_17 : decode cX9_turnOf 17 = .ok (.istore_n 3, 1) := by decide +kernel
theorem dX9_turnOf_18 : decode cX9_turnOf 18 = .ok (.iload_n 3, 1) := by decide +kernel
theorem dX9_turnOf_19 : decode cX9_turnOf 19 = .ok (.iconst 1, 1) := by decide +kernel
theorem dX9_turnOf_20 : decode cX9_turnOf 20 = .ok (.aload_n 0, 1) := by decide +kernel
theorem dX9_turnOf_21 : decode cX9_turnOf 21 = .ok (.getfield 34, 3) := by decide +kernel
theorem dX9_turnOf_24 : decode cX9_turnOf 24 = .ok (.iconst 3, 1) := by decide +kernel
theorem dX9_turnOf_25 : decode cX9_turnOf 25 = .ok (.iaload, 1) := by decide +kernel
theorem dX9_turnOf_26 : decode cX9_turnOf 26 = .ok (.ishl, 1) := by decide +kernel
theorem dX9_turnOf_27 : decode cX9_turnOf 27 = .ok (.if_icmp .ge 38, 3) := by decide +kernel
theorem dX9_turnOf_30 : decode cX9_turnOf 30 = .ok (.aload_n 0, 1) := by decide +kernel
theorem dX9_turnOf_31 : decode cX9_turnOf 31 = .ok (.iload_n 1, 1) := by decide +kernel
theorem dX9_turnOf_32 : decode cX9_turnOf 32 = .ok (.invokevirtual 430, 3) := by decide +kernel
theorem dX9_turnOf_35 : decode cX9_turnOf 35 = .ok (.ifCond .le 30, 3) := by decide +kernel
theorem dX9_turnOf_38 : decode cX9_turnOf 38 = .ok (.aload_n 0, 1) := by decide +kernel
theorem dX9_turnOf_39 : decode cX9_turnOf 39 = .ok (.getfield 68, 3) := by decide +kernel
theorem dX9_turnOf_42 : decode cX9_turnOf 42 = .ok (.iload_n 3, 1) := by decide +kernel
theorem dX9_turnOf_43 : decode cX9_turnOf 43 = .ok (.iaload, 1) := by decide +kernel
theorem dX9_turnOf_44 : decode cX9_turnOf 44 = .ok (.iload_n 2, 1) := by decide +kernel
theorem dX9_turnOf_45 : decode cX9_turnOf 45 = .ok (.if_icmp .ge 12, 3) := by decide +kernel
theorem dX9_turnOf_48 : decode cX9_turnOf 48 = .ok (.aload_n 0, 1) := by decide +kernel
theorem dX9_turnOf_49 : decode cX9_turnOf 49 = .ok (.getfield 68, 3) := by decide +kernel
theorem dX9_turnOf_52 : decode cX9_turnOf 52 = .ok (.iload_n 3, 1) := by decide +kernel
theorem dX9_turnOf_53 : decode cX9_turnOf 53 = .ok (.iaload, 1) := by decide +kernel
theorem dX9_turnOf_54 : decode cX9_turnOf 54 = .ok (.goto 4, 3) := by decide +kernel
theorem dX9_turnOf_57 : decode cX9_turnOf 57 = .ok (.iload_n 2, 1) := by decide +kernel
theorem dX9_turnOf_58 : decode cX9_turnOf 58 = .ok (.istore_n 2, 1) := by decide +kernel
theorem dX9_turnOf_59 : decode cX9_turnOf 59 = .ok (.iinc 3 1, 3) := by decide +kernel
theorem dX9_turnOf_62 : decode cX9_turnOf 62 = .ok (.goto (-44), 3) := by decide +kernel
theorem dX9_turnOf_65 : decode cX9_turnOf 65 = .ok (.iload_n 2, 1) := by decide +kernel
theorem dX9_turnOf_66 : decode cX9_turnOf 66 = .ok (.ireturn, 1) := by decide +kernel
theorem dX9_turn_0 : decode cX9_turn 0 = .ok (.aload_n 0, 1) := by decide +kernel
theorem dX9_turn_1 : decode cX9_turn 1 = .ok (.iconst 0, 1) := by decide +kernel
theorem dX9_turn_2 : decode cX9_turn 2 = .ok (.putfield 71, 3) := by decide +kernel
theorem dX9_turn_5 : decode cX9_turn 5 = .ok (.aload_n 0, 1) := by decide +kernel
theorem dX9_turn_6 : decode cX9_turn 6 = .ok (.iload_n 1, 1) := by decide +kernel
theorem dX9_turn_7 : decode cX9_turn 7 = .ok (.iload_n 2, 1) := by decide +kernel
theorem dX9_turn_8 : decode cX9_turn 8 = .ok (.invokevirtual 440, 3) := by decide +kernel
theorem dX9_turn_11 : decode cX9_turn 11 = .ok (.istore_n 3, 1) := by decide +kernel
theorem dX9_turn_12 : decode cX9_turn 12 = .ok (.iload_n 3, 1) := by decide +kernel
theorem dX9_turn_13 : decode cX9_turn 13 = .ok (.ifCond .eq 5, 3) := by decide +kernel
theorem dX9_turn_16 : decode cX9_turn 16 = .ok (.iload_n 3, 1) := by decide +kernel
theorem dX9_turn_17 : decode cX9_turn 17 = .ok (.ireturn, 1) := by decide +kernel
theorem dX9_turn_18 : decode cX9_turn 18 = .ok (.aload_n 0, 1) := by decide +kernel
theorem dX9_turn_19 : decode cX9_turn 19 = .ok (.iload_n 1, 1) := by decide +kernel
theorem dX9_turn_20 : decode cX9_turn 20 = .ok (.iload_n 2, 1) := by decide +kernel
theorem dX9_turn_21 : decode cX9_turn 21 = .ok (.invokevirtual 443, 3) := by decide +kernel
theorem dX9_turn_24 : decode cX9_turn 24 = .ok (.aload_n 0, 1) := by decide +kernel
theorem dX9_turn_25 : decode cX9_turn 25 = .ok (.iload_n 1, 1) := by decide +kernel
theorem dX9_turn_26 : decode cX9_turn 26 = .ok (.invokevirtual 446, 3) := by decide +kernel
theorem dX9_turn_29 : decode cX9_turn 29 = .ok (.ireturn, 1) := by decide +kernel
theorem dX9_turnedIn_0 : decode cX9_turnedIn 0 = .ok (.aload_n 0, 1) := by decide +kernel
theorem dX9_turnedIn_1 : decode cX9_turnedIn 1 = .ok (.iconst 0, 1) := by decide +kernel
theorem dX9_turnedIn_2 : decode cX9_turnedIn 2 = .ok (.putfield 449, 3) := by decide +kernel
theorem dX9_turnedIn_5 : decode cX9_turnedIn 5 = .ok (.iconst 0, 1) := by decide +kernel
theorem dX9_turnedIn_6 : decode cX9_turnedIn 6 = .ok (.istore 4, 2) := by decide +kernel
theorem dX9_turnedIn_8 : decode cX9_turnedIn 8 = .ok (.aload_n 0, 1) := by decide +kernel
theorem dX9_turnedIn_9 : decode cX9_turnedIn 9 = .ok (.getfield 68, 3) := by decide +kernel
theorem dX9_turnedIn_12 : decode cX9_turnedIn 12 = .ok (.iload 4, 2) := by decide +kernel
theorem dX9_turnedIn_14 : decode cX9_turnedIn 14 = .ok (.iaload, 1) := by decide +kernel
theorem dX9_turnedIn_15 : decode cX9_turnedIn 15 = .ok (.aload_n 0, 1) := by decide +kernel
theorem dX9_turnedIn_16 : decode cX9_turnedIn 16 = .ok (.iload_n 1, 1) := by decide +kernel
theorem dX9_turnedIn_17 : decode cX9_turnedIn 17 = .ok (.invokevirtual 446, 3) := by decide +kernel
theorem dX9_turnedIn_20 : decode cX9_turnedIn 20 = .ok (.if_icmp .eq 9, 3) := by decide +kernel
theorem dX9_turnedIn_23 : decode cX9_turnedIn 23 = .ok (.iinc 4 1, 3) := by decide +kernel
theorem dX9_turnedIn_26 : decode cX9_turnedIn 26 = .ok (.goto (-18), 3) := by decide +kernel
theorem dX9_turnedIn_29 : decode cX9_turnedIn 29 = .ok (.iconst 0, 1) := by decide +kernel
theorem dX9_turnedIn_30 : decode cX9_turnedIn 30 = .ok (.istore 5, 2) := by decide +kernel
theorem dX9_turnedIn_32 : decode cX9_turnedIn 32 = .ok (.iload 5, 2) := by decide +kernel
theorem dX9_turnedIn_34 : decode cX9_turnedIn 34 = .ok (.iload_n 3, 1) := by decide +kernel
theorem dX9_turnedIn_35 : decode cX9_turnedIn 35 = .ok (.if_icmp .ge 81, 3) := by decide +kernel
theorem dX9_turnedIn_38 : decode cX9_turnedIn 38 = .ok (.iconst 0, 1) := by decide +kernel
theorem dX9_turnedIn_39 : decode cX9_turnedIn 39 = .ok (.istore 6, 2) := by decide +kernel
theorem dX9_turnedIn_41 : decode cX9_turnedIn 41 = .ok (.aload_n 0, 1) := by decide +kernel
theorem dX9_turnedIn_42 : decode cX9_turnedIn 42 = .ok (.iload_n 1, 1) := by decide +kernel
theorem dX9_turnedIn_43 : decode cX9_turnedIn 43 = .ok (.iload 5, 2) := by decide +kernel
theorem dX9_turnedIn_45 : decode cX9_turnedIn 45 = .ok (.iload 4, 2) := by decide +kernel
theorem dX9_turnedIn_47 : decode cX9_turnedIn 47 = .ok (.invokevirtual 437, 3) := by decide +kernel
theorem dX9_turnedIn_50 : decode cX9_turnedIn 50 = .ok (.aload_n 0, 1) := by decide +kernel
theorem dX9_turnedIn_51 : decode cX9_turnedIn 51 = .ok (.iload 5, 2) := by decide +kernel
theorem dX9_turnedIn_53 : decode cX9_turnedIn 53 = .ok (.aload_n 0, 1) := by decide +kernel
theorem dX9_turnedIn_54 : decode cX9_turnedIn 54 = .ok (.iload_n 1, 1) := by decide +kernel
theorem dX9_turnedIn_55 : decode cX9_turnedIn 55 = .ok (.invokevirtual 430, 3) := by decide +kernel
theorem dX9_turnedIn_58 : decode cX9_turnedIn 58 = .ok (.iload 4, 2) := by decide +kernel
theorem dX9_turnedIn_60 : decode cX9_turnedIn 60 = .ok (.iload_n 2, 1) := by decide +kernel
theorem dX9_turnedIn_61 : decode cX9_turnedIn 61 = .ok (.iload 6, 2) := by decide +kernel
theorem dX9_turnedIn_63 : decode cX9_turnedIn 63 = .ok (.invokevirtual 433, 3) := by decide +kernel
theorem dX9_turnedIn_66 : decode cX9_turnedIn 66 = .ok (.iadd, 1) := by decide +kernel
theorem dX9_turnedIn_67 : decode cX9_turnedIn 67 = .ok (.aload_n 0, 1) := by decide +kernel
theorem dX9_turnedIn_68 : decode cX9_turnedIn 68 = .ok (.getfield 68, 3) := by decide +kernel
theorem dX9_turnedIn_71 : decode cX9_turnedIn 71 = .ok (.bipush 16, 2) := by decide +kernel
theorem dX9_turnedIn_73 : decode cX9_turnedIn 73 = .ok (.iload 5, 2) := by decide +kernel
theorem dX9_turnedIn_75 : decode cX9_turnedIn 75 = .ok (.imul, 1) := by decide +kernel
theorem dX9_turnedIn_76 : decode cX9_turnedIn 76 = .ok (.iload 4, 2) := by decide +kernel
theorem dX9_turnedIn_78 : decode cX9_turnedIn 78 = .ok (.iadd, 1) := by decide +kernel
theorem dX9_turnedIn_79 : decode cX9_turnedIn 79 = .ok (.iaload, 1) := by decide +kernel
theorem dX9_turnedIn_80 : decode cX9_turnedIn 80 = .ok (.if_icmp .eq 9, 3) := by decide +kernel
theorem dX9_turnedIn_83 : decode cX9_turnedIn 83 = .ok (.iinc 6 1, 3) := by decide +kernel
theorem dX9_turnedIn_86 : decode cX9_turnedIn 86 = .ok (.goto (-45), 3) := by decide +kernel
theorem dX9_turnedIn_89 : decode cX9_turnedIn 89 = .ok (.aload_n 0, 1) := by decide +kernel
theorem dX9_turnedIn_90 : decode cX9_turnedIn 90 = .ok (.dup, 1) := by decide +kernel
theorem dX9_turnedIn_91 : decode cX9_turnedIn 91 = .ok (.getfield 449, 3) := by decide +kernel
theorem dX9_turnedIn_94 : decode cX9_turnedIn 94 = .ok (.iload 4, 2) := by decide +kernel
theorem dX9_turnedIn_96 : decode cX9_turnedIn 96 = .ok (.iload 6, 2) := by decide +kernel
theorem dX9_turnedIn_98 : decode cX9_turnedIn 98 = .ok (.ixor, 1) := by decide +kernel
theorem dX9_turnedIn_99 : decode cX9_turnedIn 99 = .ok (.invokestatic 427, 3) := by decide +kernel
theorem dX9_turnedIn_102 : decode cX9_turnedIn 102 = .ok (.iadd, 1) := by decide +kernel
theorem dX9_turnedIn_103 : decode cX9_turnedIn 103 = .ok (.putfield 449, 3) := by decide +kernel
theorem dX9_turnedIn_106 : decode cX9_turnedIn 106 = .ok (.iload 6, 2) := by decide +kernel
theorem dX9_turnedIn_108 : decode cX9_turnedIn 108 = .ok (.istore 4, 2) := by decide +kernel
theorem dX9_turnedIn_110 : decode cX9_turnedIn 110 = .ok (.iinc 5 1, 3) := by decide +kernel
theorem dX9_turnedIn_113 : decode cX9_turnedIn 113 = .ok (.goto (-81), 3) := by decide +kernel
theorem dX9_turnedIn_116 : decode cX9_turnedIn 116 = .ok (.iload 4, 2) := by decide +kernel
theorem dX9_turnedIn_118 : decode cX9_turnedIn 118 = .ok (.ireturn, 1) := by decide +kernel
theorem dX9_turned_0 : decode cX9_turned 0 = .ok (.aload_n 0, 1) := by decide +kernel
theorem dX9_turned_1 : decode cX9_turned 1 = .ok (.iconst 0, 1) := by decide +kernel
theorem dX9_turned_2 : decode cX9_turned 2 = .ok (.putfield 71, 3) := by decide +kernel
theorem dX9_turned_5 : decode cX9_turned 5 = .ok (.aload_n 0, 1) := by decide +kernel
theorem dX9_turned_6 : decode cX9_turned 6 = .ok (.iload_n 1, 1) := by decide +kernel
theorem dX9_turned_7 : decode cX9_turned 7 = .ok (.iload_n 2, 1) := by decide +kernel
theorem dX9_turned_8 : decode cX9_turned 8 = .ok (.invokevirtual 440, 3) := by decide +kernel
theorem dX9_turned_11 : decode cX9_turned 11 = .ok (.istore 4, 2) := by decide +kernel
theorem dX9_turned_13 : decode cX9_turned 13 = .ok (.iload 4, 2) := by decide +kernel
theorem dX9_turned_15 : decode cX9_turned 15 = .ok (.ifCond .eq 6, 3) := by decide +kernel
theorem dX9_turned_18 : decode cX9_turned 18 = .ok (.iload 4, 2) := by decide +kernel
theorem dX9_turned_20 : decode cX9_turned 20 = .ok (.ireturn, 1) := by decide +kernel
theorem dX9_turned_21 : decode cX9_turned 21 = .ok (.iload_n 3, 1) := by decide +kernel
theorem dX9_turned_22 : decode cX9_turned 22 = .ok (.i2l, 1) := by decide +kernel
theorem dX9_turned_23 : decode cX9_turned 23 = .ok (.lconst 0, 1) := by decide +kernel
theorem dX9_turned_24 : decode cX9_turned 24 = .ok (.aload_n 0, 1) := by decide +kernel
theorem dX9_turned_25 : decode cX9_turned 25 = .ok (.iload_n 1, 1) := by decide +kernel
theorem dX9_turned_26 : decode cX9_turned 26 = .ok (.invokevirtual 430, 3) := by decide +kernel
theorem dX9_turned_29 : decode cX9_turned 29 = .ok (.iconst 1, 1) := by decide +kernel
theorem dX9_turned_30 : decode cX9_turned 30 = .ok (.isub, 1) := by decide +kernel
theorem dX9_turned_31 : decode cX9_turned 31 = .ok (.i2l, 1) := by decide +kernel
theorem dX9_turned_32 : decode cX9_turned 32 = .ok (.invokestatic 76, 3) := by decide +kernel
theorem dX9_turned_35 : decode cX9_turned 35 = .ok (.ifCond .ne 5, 3) := by decide +kernel
theorem dX9_turned_38 : decode cX9_turned 38 = .ok (.iconst (-1), 1) := by decide +kernel
theorem dX9_turned_39 : decode cX9_turned 39 = .ok (.ireturn, 1) := by decide +kernel
theorem dX9_turned_40 : decode cX9_turned 40 = .ok (.aload_n 0, 1) := by decide +kernel
theorem dX9_turned_41 : decode cX9_turned 41 = .ok (.iload_n 1, 1) := by decide +kernel
theorem dX9_turned_42 : decode cX9_turned 42 = .ok (.iload_n 2, 1) := by decide +kernel
theorem dX9_turned_43 : decode cX9_turned 43 = .ok (.invokevirtual 443, 3) := by decide +kernel
theorem dX9_turned_46 : decode cX9_turned 46 = .ok (.aload_n 0, 1) := by decide +kernel
theorem dX9_turned_47 : decode cX9_turned 47 = .ok (.iload_n 1, 1) := by decide +kernel
theorem dX9_turned_48 : decode cX9_turned 48 = .ok (.iload_n 2, 1) := by decide +kernel
theorem dX9_turned_49 : decode cX9_turned 49 = .ok (.iload_n 3, 1) := by decide +kernel
theorem dX9_turned_50 : decode cX9_turned 50 = .ok (.invokevirtual 452, 3) := by decide +kernel
theorem dX9_turned_53 : decode cX9_turned 53 = .ok (.ireturn, 1) := by decide +kernel
theorem dX9_turnings_0 : decode cX9_turnings 0 = .ok (.aload_n 0, 1) := by decide +kernel
theorem dX9_turnings_1 : decode cX9_turnings 1 = .ok (.iconst 0, 1) := by decide +kernel
theorem dX9_turnings_2 : decode cX9_turnings 2 = .ok (.putfield 71, 3) := by decide +kernel
theorem dX9_turnings_5 : decode cX9_turnings 5 = .ok (.aload_n 0, 1) := by decide +kernel
theorem dX9_turnings_6 : decode cX9_turnings 6 = .ok (.iload_n 1, 1) := by decide +kernel
theorem dX9_turnings_7 : decode cX9_turnings 7 = .ok (.iload_n 2, 1) := by decide +kernel
theorem dX9_turnings_8 : decode cX9_turnings 8 = .ok (.invokevirtual 440, 3) := by decide +kernel
theorem dX9_turnings_11 : decode cX9_turnings 11 = .ok (.istore_n 3, 1) := by decide +kernel
theorem dX9_turnings_12 : decode cX9_turnings 12 = .ok (.iload_n 3, 1) := by decide +kernel
theorem dX9_turnings_13 : decode cX9_turnings 13 = .ok (.ifCond .eq 5, 3) := by decide +kernel
theorem dX9_turnings_16 : decode cX9_turnings 16 = .ok (.iload_n 3, 1) := by decide +kernel
theorem dX9_turnings_17 : decode cX9_turnings 17 = .ok (.ireturn, 1) := by decide +kernel
theorem dX9_turnings_18 : decode cX9_turnings 18 = .ok (.aload_n 0, 1) := by decide +kernel
theorem dX9_turnings_19 : decode cX9_turnings 19 = .ok (.iload_n 1, 1) := by decide +kernel
theorem dX9_turnings_20 : decode cX9_turnings 20 = .ok (.invokevirtual 430, 3) := by decide +kernel
theorem dX9_turnings_23 : decode cX9_turnings 23 = .ok (.ifCond .ne 5, 3) := by decide +kernel
theorem dX9_turnings_26 : decode cX9_turnings 26 = .ok (.iconst 0, 1) := by decide +kernel
theorem dX9_turnings_27 : decode cX9_turnings 27 = .ok (.ireturn, 1) := by decide +kernel
theorem dX9_turnings_28 : decode cX9_turnings 28 = .ok (.aload_n 0, 1) := by decide +kernel
theorem dX9_turnings_29 : decode cX9_turnings 29 = .ok (.iload_n 1, 1) := by decide +kernel
theorem dX9_turnings_30 : decode cX9_turnings 30 = .ok (.iload_n 2, 1) := by decide +kernel
theorem dX9_turnings_31 : decode cX9_turnings 31 = .ok (.invokevirtual 443, 3) := by decide +kernel
theorem dX9_turnings_34 : decode cX9_turnings 34 = .ok (.aload_n 0, 1) := by decide +kernel
theorem dX9_turnings_35 : decode cX9_turnings 35 = .ok (.iload_n 1, 1) := by decide +kernel
theorem dX9_turnings_36 : decode cX9_turnings 36 = .ok (.iload_n 2, 1) := by decide +kernel
theorem dX9_turnings_37 : decode cX9_turnings 37 = .ok (.aload_n 0, 1) := by decide +kernel
theorem dX9_turnings_38 : decode cX9_turnings 38 = .ok (.iload_n 1, 1) := by decide +kernel
theorem dX9_turnings_39 : decode cX9_turnings 39 = .ok (.invokevirtual 430, 3) := by decide +kernel
theorem dX9_turnings_42 : decode cX9_turnings 42 = .ok (.iconst 1, 1) := by decide +kernel
theorem dX9_turnings_43 : decode cX9_turnings 43 = .ok (.isub, 1) := by decide +kernel
theorem dX9_turnings_44 : decode cX9_turnings 44 = .ok (.invokevirtual 452, 3) := by decide +kernel
theorem dX9_turnings_47 : decode cX9_turnings 47 = .ok (.pop, 1) := by decide +kernel
theorem dX9_turnings_48 : decode cX9_turnings 48 = .ok (.aload_n 0, 1) := by decide +kernel
theorem dX9_turnings_49 : decode cX9_turnings 49 = .ok (.getfield 449, 3) := by decide +kernel
theorem dX9_turnings_52 : decode cX9_turnings 52 = .ok (.ireturn, 1) := by decide +kernel
theorem dX9_isStream_0 : decode cX9_isStream 0 = .ok (.iload_n 0, 1) := by decide +kernel
theorem dX9_isStream_1 : decode cX9_isStream 1 = .ok (.i2l, 1) := by decide +kernel
theorem dX9_isStream_2 : decode cX9_isStream 2 = .ok (.lconst 1, 1) := by decide +kernel
theorem dX9_isStream_3 : decode cX9_isStream 3 = .ok (.ldc2_w 392, 3) := by decide +kernel
theorem dX9_isStream_6 : decode cX9_isStream 6 = .ok (.invokestatic 76, 3) := by decide +kernel
theorem dX9_isStream_9 : decode cX9_isStream 9 = .ok (.ifCond .eq 38, 3) := by decide +kernel
theorem dX9_isStream_12 : decode cX9_isStream 12 = .ok (.iload_n 1, 1) := by decide +kernel
theorem dX9_isStream_13 : decode cX9_isStream 13 = .ok (.i2l, 1) := by decide +kernel
theorem dX9_isStream_14 : decode cX9_isStream 14 = .ok (.lconst 1, 1) := by decide +kernel
theorem dX9_isStream_15 : decode cX9_isStream 15 = .ok (.ldc2_w 455, 3) := by decide +kernel
theorem dX9_isStream_18 : decode cX9_isStream 18 = .ok (.invokestatic 76, 3) := by decide +kernel
theorem dX9_isStream_21 : decode cX9_isStream 21 = .ok (.ifCond .eq 26, 3) := by decide +kernel
theorem dX9_isStream_24 : decode cX9_isStream 24 = .ok (.iload_n 2, 1) := by decide +kernel
theorem dX9_isStream_25 : decode cX9_isStream 25 = .ok (.i2l, 1) := by decide +kernel
theorem dX9_isStream_26 : decode cX9_isStream 26 = .ok (.lconst 0, 1) := by decide +kernel
theorem dX9_isStream_27 : decode cX9_isStream 27 = .ok (.ldc2_w 455, 3) := by decide +kernel
theorem dX9_isStream_30 : decode cX9_isStream 30 = .ok (.invokestatic 76, 3) := by decide +kernel
theorem dX9_isStream_33 : decode cX9_isStream 33 = .ok (.ifCond .eq 14, 3) := by decide +kernel
theorem dX9_isStream_36 : decode cX9_isStream 36 = .ok (.iload_n 3, 1) := by decide +kernel
theorem dX9_isStream_37 : decode cX9_isStream 37 = .ok (.invokestatic 260, 3) := by decide +kernel
theorem dX9_isStream_40 : decode cX9_isStream 40 = .ok (.ifCond .eq 7, 3) := by decide +kernel
theorem dX9_isStream_43 : decode cX9_isStream 43 = .ok (.iconst 1, 1) := by decide +kernel
theorem dX9_isStream_44 : decode cX9_isStream 44 = .ok (.goto 4, 3) := by decide +kernel
theorem dX9_isStream_47 : decode cX9_isStream 47 = .ok (.iconst 0, 1) := by decide +kernel
theorem dX9_isStream_48 : decode cX9_isStream 48 = .ok (.ireturn, 1) := by decide +kernel
theorem dX9_stream_0 : decode cX9_stream 0 = .ok (.aload_n 0, 1) := by decide +kernel
theorem dX9_stream_1 : decode cX9_stream 1 = .ok (.iconst 0, 1) := by decide +kernel
theorem dX9_stream_2 : decode cX9_stream 2 = .ok (.putfield 71, 3) := by decide +kernel
theorem dX9_stream_5 : decode cX9_stream 5 = .ok (.iload_n 1, 1) := by decide +kernel
theorem dX9_stream_6 : decode cX9_stream 6 = .ok (.iload_n 2, 1) := by decide +kernel
theorem dX9_stream_7 : decode cX9_stream 7 = .ok (.iload_n 3, 1) := by decide +kernel
theorem dX9_stream_8 : decode cX9_stream 8 = .ok (.iload 4, 2) := by decide +kernel
theorem dX9_stream_10 : decode cX9_stream 10 = .ok (.invokestatic 457, 3) := by decide +kernel
theorem dX9_stream_13 : decode cX9_stream 13 = .ok (.ifCond .ne 7, 3) := by decide +kernel
theorem dX9_stream_16 : decode cX9_stream 16 = .ok (.ldc2_w 267, 3) := by decide +kernel
theorem dX9_stream_19 : decode cX9_stream 19 = .ok (.lreturn, 1) := by decide +kernel
theorem dX9_stream_20 : decode cX9_stream 20 = .ok (.iload_n 2, 1) := by decide +kernel
theorem dX9_stream_21 : decode cX9_stream 21 = .ok (.iload_n 3, 1) := by decide +kernel
theorem dX9_stream_22 : decode cX9_stream 22 = .ok (.if_icmp .gt 7, 3) := by decide +kernel
theorem dX9_stream_25 : decode cX9_stream 25 = .ok (.ldc2_w 115, 3) := by decide +kernel
theorem dX9_stream_28 : decode cX9_stream 28 = .ok (.lreturn, 1) := by decide +kernel
theorem dX9_stream_29 : decode cX9_stream 29 = .ok (.aload_n 0, 1) := by decide +kernel
theorem dX9_stream_30 : decode cX9_stream 30 = .ok (.invokevirtual 253, 3) := by decide +kernel
theorem dX9_stream_33 : decode cX9_stream 33 = .ok (.aload_n 0, 1) := by decide +kernel
theorem dX9_stream_34 : decode cX9_stream 34 = .ok (.iload_n 1, 1) := by decide +kernel
theorem dX9_stream_35 : decode cX9_stream 35 = .ok (.i2l, 1) := by decide +kernel
theorem dX9_stream_36 : decode cX9_stream 36 = .ok (.iload_n 2, 1) := by decide +kernel
theorem dX9_stream_37 : decode cX9_stream 37 = .ok (.iload_n 3, 1) := by decide +kernel
theorem dX9_stream_38 : decode cX9_stream 38 = .ok (.iadd, 1) := by decide +kernel
theorem dX9_stream_39 : decode cX9_stream 39 = .ok (.i2l, 1) := by decide +kernel
theorem dX9_stream_40 : decode cX9_stream 40 = .ok (.invokevirtual 256, 3) := by decide +kernel
theorem dX9_stream_43 : decode cX9_stream 43 = .ok (.aload_n 0, 1) := by decide +kernel
theorem dX9_stream_44 : decode cX9_stream 44 = .ok (.iload_n 1, 1) := by decide +kernel
theorem dX9_stream_45 : decode cX9_stream 45 = .ok (.i2l, 1) := by decide +kernel
theorem dX9_stream_46 : decode cX9_stream 46 = .ok (.iload_n 2, 1) := by decide +kernel
theorem dX9_stream_47 : decode cX9_stream 47 = .ok (.iload_n 3, 1) := by decide +kernel
theorem dX9_stream_48 : decode cX9_stream 48 = .ok (.isub, 1) := by decide +kernel
theorem dX9_stream_49 : decode cX9_stream 49 = .ok (.i2l, 1) := by decide +kernel
theorem dX9_stream_50 : decode cX9_stream 50 = .ok (.invokevirtual 256, 3) := by decide +kernel
theorem dX9_stream_53 : decode cX9_stream 53 = .ok (.aload_n 0, 1) := by decide +kernel
theorem dX9_stream_54 : decode cX9_stream 54 = .ok (.iload 4, 2) := by decide +kernel
theorem dX9_stream_56 : decode cX9_stream 56 = .ok (.invokevirtual 272, 3) := by decide +kernel
theorem dX9_stream_59 : decode cX9_stream 59 = .ok (.lreturn, 1) := by decide +kernel
theorem dX9_still_0 : decode cX9_still 0 = .ok (.aload_n 0, 1) := by decide +kernel
theorem dX9_still_1 : decode cX9_still 1 = .ok (.iconst 0, 1) := by decide +kernel
theorem dX9_still_2 : decode cX9_still 2 = .ok (.putfield 71, 3) := by decide +kernel
theorem dX9_still_5 : decode cX9_still 5 = .ok (.iload_n 1, 1) := by decide +kernel
theorem dX9_still_6 : decode cX9_still 6 = .ok (.iload_n 2, 1) := by decide +kernel
theorem dX9_still_7 : decode cX9_still 7 = .ok (.iload_n 3, 1) := by decide +kernel
theorem dX9_still_8 : decode cX9_still 8 = .ok (.iload 4, 2) := by decide +kernel
theorem dX9_still_10 : decode cX9_still 10 = .ok (.invokestatic 457, 3) := by decide +kernel
theorem dX9_still_13 : decode cX9_still 13 = .ok (.ifCond .ne 7, 3) := by decide +kernel
theorem dX9_still_16 : decode cX9_still 16 = .ok (.ldc2_w 267, 3) := by decide +kernel
theorem dX9_still_19 : decode cX9_still 19 = .ok (.lreturn, 1) := by decide +kernel
theorem dX9_still_20 : decode cX9_still 20 = .ok (.iload_n 2, 1) := by decide +kernel
theorem dX9_still_21 : decode cX9_still 21 = .ok (.iload_n 3, 1) := by decide +kernel
theorem dX9_still_22 : decode cX9_still 22 = .ok (.if_icmp .gt 7, 3) := by decide +kernel
theorem dX9_still_25 : decode cX9_still 25 = .ok (.ldc2_w 115, 3) := by decide +kernel
theorem dX9_still_28 : decode cX9_still 28 = .ok (.lreturn, 1) := by decide +kernel
theorem dX9_still_29 : decode cX9_still 29 = .ok (.aload_n 0, 1) := by decide +kernel
theorem dX9_still_30 : decode cX9_still 30 = .ok (.invokevirtual 253, 3) := by decide +kernel
theorem dX9_still_33 : decode cX9_still 33 = .ok (.aload_n 0, 1) := by decide +kernel
theorem dX9_still_34 : decode cX9_still 34 = .ok (.iload_n 2, 1) := by decide +kernel
theorem dX9_still_35 : decode cX9_still 35 = .ok (.iload_n 2, 1) := by decide +kernel
theorem dX9_still_36 : decode cX9_still 36 = .ok (.imul, 1) := by decide +kernel
theorem dX9_still_37 : decode cX9_still 37 = .ok (.iload_n 3, 1) := by decide +kernel
theorem dX9_still_38 : decode cX9_still 38 = .ok (.iload_n 3, 1) := by decide +kernel
theorem dX9_still_39 : decode cX9_still 39 = .ok (.imul, 1) := by decide +kernel
theorem dX9_still_40 : decode cX9_still 40 = .ok (.isub, 1) := by decide +kernel
theorem dX9_still_41 : decode cX9_still 41 = .ok (.i2l, 1) := by decide +kernel
theorem dX9_still_42 : decode cX9_still 42 = .ok (.iload_n 2, 1) := by decide +kernel
theorem dX9_still_43 : decode cX9_still 43 = .ok (.i2l, 1) := by decide +kernel
theorem dX9_still_44 : decode cX9_still 44 = .ok (.invokevirtual 256, 3) := by decide +kernel
theorem dX9_still_47 : decode cX9_still 47 = .ok (.aload_n 0, 1) := by decide +kernel
theorem dX9_still_48 : decode cX9_still 48 = .ok (.iload 4, 2) := by decide +kernel
theorem dX9_still_50 : decode cX9_still 50 = .ok (.invokevirtual 272, 3) := by decide +kernel
theorem dX9_still_53 : decode cX9_still 53 = .ok (.lreturn, 1) := by decide +kernel
theorem dX9_ant_0 : decode cX9_ant 0 = .ok (.aload_n 0, 1) := by decide +kernel
theorem dX9_ant_1 : decode cX9_ant 1 = .ok (.iconst 0, 1) := by decide +kernel
theorem dX9_ant_2 : decode cX9_ant 2 = .ok (.putfield 71, 3) := by decide +kernel
theorem dX9_ant_5 : decode cX9_ant 5 = .ok (.iload_n 1, 1) := by decide +kernel
theorem dX9_ant_6 : decode cX9_ant 6 = .ok (.iload_n 2, 1) := by decide +kernel
theorem dX9_ant_7 : decode cX9_ant 7 = .ok (.iload_n 3, 1) := by decide +kernel
theorem dX9_ant_8 : decode cX9_ant 8 = .ok (.iconst 0, 1) := by decide +kernel
theorem dX9_ant_9 : decode cX9_ant 9 = .ok (.invokestatic 457, 3) := by decide +kernel
theorem dX9_ant_12 : decode cX9_ant 12 = .ok (.ifCond .ne 6, 3) := by decide +kernel
theorem dX9_ant_15 : decode cX9_ant 15 = .ok (.bipush (-2), 2) := by decide +kernel
theorem dX9_ant_17 : decode cX9_ant 17 = .ok (.ireturn, 1) := by decide +kernel
theorem dX9_ant_18 : decode cX9_ant 18 = .ok (.iconst 0, 1) := by decide +kernel
theorem dX9_ant_19 : decode cX9_ant 19 = .ok (.istore 4, 2) := by decide +kernel
theorem dX9_ant_21 : decode cX9_ant 21 = .ok (.iload_n 1, 1) := by decide +kernel
theorem dX9_ant_22 : decode cX9_ant 22 = .ok (.istore 5, 2) := by decide +kernel
theorem dX9_ant_24 : decode cX9_ant 24 = .ok (.iconst 1, 1) := by decide +kernel
theorem dX9_ant_25 : decode cX9_ant 25 = .ok (.istore 6, 2) := by decide +kernel
theorem dX9_ant_27 : decode cX9_ant 27 = .ok (.iload 6, 2) := by decide +kernel
theorem dX9_ant_29 : decode cX9_ant 29 = .ok (.sipush 1000, 3) := by decide +kernel
theorem dX9_ant_32 : decode cX9_ant 32 = .ok (.if_icmp .gt 37, 3) := by decide +kernel
theorem dX9_ant_35 : decode cX9_ant 35 = .ok (.iload 4, 2) := by decide +kernel
theorem dX9_ant_37 : decode cX9_ant 37 = .ok (.iload_n 2, 1) := by decide +kernel
theorem dX9_ant_38 : decode cX9_ant 38 = .ok (.ldc 122, 2) := by decide +kernel
theorem dX9_ant_40 : decode cX9_ant 40 = .ok (.imul, 1) := by decide +kernel
theorem dX9_ant_41 : decode cX9_ant 41 = .ok (.iload 5, 2) := by decide +kernel
theorem dX9_ant_43 : decode cX9_ant 43 = .ok (.idiv, 1) := by decide +kernel
theorem dX9_ant_44 : decode cX9_ant 44 = .ok (.iadd, 1) := by decide +kernel
theorem dX9_ant_45 : decode cX9_ant 45 = .ok (.istore 4, 2) := by decide +kernel
theorem dX9_ant_47 : decode cX9_ant 47 = .ok (.iload 4, 2) := by decide +kernel
theorem dX9_ant_49 : decode cX9_ant 49 = .ok (.ldc 122, 2) := by decide +kernel
theorem dX9_ant_51 : decode cX9_ant 51 = .ok (.if_icmp .lt 6, 3) := by decide +kernel
theorem dX9_ant_54 : decode cX9_ant 54 = .ok (.iload 6, 2) := by decide +kernel
theorem dX9_ant_56 : decode cX9_ant 56 = .ok (.ireturn, 1) := by decide +kernel
theorem dX9_ant_57 : decode cX9_ant 57 = .ok (.iload 5, 2) := by decide +kernel
theorem dX9_ant_59 : decode cX9_ant 59 = .ok (.iload_n 3, 1) := by decide +kernel
theorem dX9_ant_60 : decode cX9_ant 60 = .ok (.iadd, 1) := by decide +kernel
theorem dX9_ant_61 : decode cX9_ant 61 = .ok (.istore 5, 2) := by decide +kernel
theorem dX9_ant_63 : decode cX9_ant 63 = .ok (.iinc 6 1, 3) := by decide +kernel
theorem dX9_ant_66 : decode cX9_ant 66 = .ok (.goto (-39), 3) := by decide +kernel
theorem dX9_ant_69 : decode cX9_ant 69 = .ok (.iconst (-1), 1) := by decide +kernel
theorem dX9_ant_70 : decode cX9_ant 70 = .ok (.ireturn, 1) := by decide +kernel
theorem dX9_isFull_0 : decode cX9_isFull 0 = .ok (.aload_n 0, 1) := by decide +kernel
theorem dX9_isFull_1 : decode cX9_isFull 1 = .ok (.getfield 34, 3) := by decide +kernel
theorem dX9_isFull_4 : decode cX9_isFull 4 = .ok (.bipush 8, 2) := by decide +kernel
theorem dX9_isFull_6 : decode cX9_isFull 6 = .ok (.iaload, 1) := by decide +kernel
theorem dX9_isFull_7 : decode cX9_isFull 7 = .ok (.bipush 60, 2) := by decide +kernel
theorem dX9_isFull_9 : decode cX9_isFull 9 = .ok (.if_icmp .ne 7, 3) := by decide +kernel
theorem dX9_isFull_12 : decode cX9_isFull 12 = .ok (.iconst 1, 1) := by decide +kernel
theorem dX9_isFull_13 : decode cX9_isFull 13 = .ok (.goto 4, 3) := by decide +kernel
theorem dX9_isFull_16 : decode cX9_isFull 16 = .ok (.iconst 0, 1) := by decide +kernel
theorem dX9_isFull_17 : decode cX9_isFull 17 = .ok (.ireturn, 1) := by decide +kernel
theorem dX9_acts_0 : decode cX9_acts 0 = .ok (.aload_n 0, 1) := by decide +kernel
theorem dX9_acts_1 : decode cX9_acts 1 = .ok (.getfield 46, 3) := by decide +kernel
theorem dX9_acts_4 : decode cX9_acts 4 = .ok (.iconst 2, 1) := by decide +kernel
theorem dX9_acts_5 : decode cX9_acts 5 = .ok (.aload_n 0, 1) := by decide +kernel
theorem dX9_acts_6 : decode cX9_acts 6 = .ok (.getfield 34, 3) := by decide +kernel
theorem dX9_acts_9 : decode cX9_acts 9 = .ok (.bipush 8, 2) := by decide +kernel
theorem dX9_acts_11 : decode cX9_acts 11 = .ok (.iaload, 1) := by decide +kernel
theorem dX9_acts_12 : decode cX9_acts 12 = .ok (.imul, 1) := by decide +kernel
theorem dX9_acts_13 : decode cX9_acts 13 = .ok (.iload_n 1, 1) := by decide +kernel
theorem dX9_acts_14 : decode cX9_acts 14 = .ok (.iastore, 1) := by decide +kernel
theorem dX9_acts_15 : decode cX9_acts 15 = .ok (.aload_n 0, 1) := by decide +kernel
theorem dX9_acts_16 : decode cX9_acts 16 = .ok (.getfield 46, 3) := by decide +kernel
theorem dX9_acts_19 : decode cX9_acts 19 = .ok (.iconst 2, 1) := by decide +kernel
theorem dX9_acts_20 : decode cX9_acts 20 = .ok (.aload_n 0, 1) := by decide +kernel
theorem dX9_acts_21 : decode cX9_acts 21 = .ok (.getfield 34, 3) := by decide +kernel
theorem dX9_acts_24 : decode cX9_acts 24 = .ok (.bipush 8, 2) := by decide +kernel
theorem dX9_acts_26 : decode cX9_acts 26 = .ok (.iaload, 1) := by decide +kernel
theorem dX9_acts_27 : decode cX9_acts 27 = .ok (.imul, 1) := by decide +kernel
theorem dX9_acts_28 : decode cX9_acts 28 = .ok (.iconst 1, 1) := by decide +kernel
theorem dX9_acts_29 : decode cX9_acts 29 = .ok (.iadd, 1) := by decide +kernel
theorem dX9_acts_30 : decode cX9_acts 30 = .ok (.iload_n 2, 1) := by decide +kernel
theorem dX9_acts_31 : decode cX9_acts 31 = .ok (.iastore, 1) := by decide +kernel
theorem dX9_acts_32 : decode cX9_acts 32 = .ok (.aload_n 0, 1) := by decide +kernel
theorem dX9_acts_33 : decode cX9_acts 33 = .ok (.getfield 34, 3) := by decide +kernel
theorem dX9_acts_36 : decode cX9_acts 36 = .ok (.bipush 8, 2) := by decide +kernel
theorem dX9_acts_38 : decode cX9_acts 38 = .ok (.dup2, 1) := by decide +kernel
theorem dX9_acts_39 : decode cX9_acts 39 = .ok (.iaload, 1) := by decide +kernel
theorem dX9_acts_40 : decode cX9_acts 40 = .ok (.iconst 1, 1) := by decide +kernel
theorem dX9_acts_41 : decode cX9_acts 41 = .ok (.iadd, 1) := by decide +kernel
theorem dX9_acts_42 : decode cX9_acts 42 = .ok (.iastore, 1) := by decide +kernel
theorem dX9_acts_43 : decode cX9_acts 43 = .ok (.return_, 1) := by decide +kernel
theorem dX9_set_0 : decode cX9_set 0 = .ok (.aload_n 0, 1) := by decide +kernel
theorem dX9_set_1 : decode cX9_set 1 = .ok (.iconst 0, 1) := by decide +kernel
theorem dX9_set_2 : decode cX9_set 2 = .ok (.putfield 71, 3) := by decide +kernel
theorem dX9_set_5 : decode cX9_set 5 = .ok (.aload_n 0, 1) := by decide +kernel
theorem dX9_set_6 : decode cX9_set 6 = .ok (.iload_n 1, 1) := by decide +kernel
theorem dX9_set_7 : decode cX9_set 7 = .ok (.invokevirtual 227, 3) := by decide +kernel
theorem dX9_set_10 : decode cX9_set 10 = .ok (.ifCond .eq 17, 3) := by decide +kernel
theorem dX9_set_13 : decode cX9_set 13 = .ok (.iload_n 2, 1) := by decide +kernel
theorem dX9_set_14 : decode cX9_set 14 = .ok (.i2l, 1) := by decide +kernel
theorem dX9_set_15 : decode cX9_set 15 = .ok (.ldc2_w 461, 3) := by decide +kernel
theorem dX9_set_18 : decode cX9_set 18 = .ok (.ldc2_w 314, 3) := by decide +kernel
theorem dX9_set_21 : decode cX9_set 21 = .ok (.invokestatic 76, 3) := by decide +kernel
theorem dX9_set_24 : decode cX9_set 24 = .ok (.ifCond .ne 7, 3) := by decide +kernel
theorem dX9_set_27 : decode cX9_set 27 = .ok (.sipush (-1000), 3) := by decide +kernel
theorem dX9_set_30 : decode cX9_set 30 = .ok (.ireturn, 1) := by decide +kernel
theorem dX9_set_31 : decode cX9_set 31 = .ok (.aload_n 0, 1) := by decide +kernel
theorem dX9_set_32 : decode cX9_set 32 = .ok (.invokevirtual 463, 3) := by decide +kernel
theorem dX9_set_35 : decode cX9_set 35 = .ok (.ifCond .eq 7, 3) := by decide +kernel
theorem dX9_set_38 : decode cX9_set 38 = .ok (.sipush (-1005), 3) := by decide +kernel
theorem dX9_set_41 : decode cX9_set 41 = .ok (.ireturn, 1) := by decide +kernel
theorem dX9_set_42 : decode cX9_set 42 = .ok (.aload_n 0, 1) := by decide +kernel
theorem dX9_set_43 : decode cX9_set 43 = .ok (.invokevirtual 230, 3) := by decide +kernel
theorem dX9_set_46 : decode cX9_set 46 = .ok (.aload_n 0, 1) := by decide +kernel
theorem dX9_set_47 : decode cX9_set 47 = .ok (.iload_n 1, 1) := by decide +kernel
theorem dX9_set_48 : decode cX9_set 48 = .ok (.iload_n 2, 1) := by decide +kernel
theorem dX9_set_49 : decode cX9_set 49 = .ok (.invokevirtual 466, 3) := by decide +kernel
theorem dX9_set_52 : decode cX9_set 52 = .ok (.aload_n 0, 1) := by decide +kernel
theorem dX9_set_53 : decode cX9_set 53 = .ok (.getfield 53, 3) := by decide +kernel
theorem dX9_set_56 : decode cX9_set 56 = .ok (.iload_n 1, 1) := by decide +kernel
theorem dX9_set_57 : decode cX9_set 57 = .ok (.iaload, 1) := by decide +kernel
theorem dX9_set_58 : decode cX9_set 58 = .ok (.ireturn, 1) := by decide +kernel
theorem dX9_reverse_0 : decode cX9_reverse 0 = .ok (.aload_n 0, 1) := by decide +kernel
theorem dX9_reverse_1 : decode cX9_reverse 1 = .ok (.iconst 0, 1) := by decide +kernel
theorem dX9_reverse_2 : decode cX9_reverse 2 = .ok (.putfield 71, 3) := by decide +kernel
theorem dX9_reverse_5 : decode cX9_reverse 5 = .ok (.aload_n 0, 1) := by decide +kernel
theorem dX9_reverse_6 : decode cX9_reverse 6 = .ok (.invokevirtual 297, 3) := by decide +kernel
theorem dX9_reverse_9 : decode cX9_reverse 9 = .ok (.ifCond .ne 6, 3) := by decide +kernel
theorem dX9_reverse_12 : decode cX9_reverse 12 = .ok (.bipush (-2), 2) := by decide +kernel
theorem dX9_reverse_14 : decode cX9_reverse 14 = .ok (.ireturn, 1) := by decide +kernel
theorem dX9_reverse_15 : decode cX9_reverse 15 = .ok (.aload_n 0, 1) := by decide +kernel
theorem dX9_reverse_16 : decode cX9_reverse 16 = .ok (.invokevirtual 463, 3) := by decide +kernel
theorem dX9_reverse_19 : decode cX9_reverse 19 = .ok (.ifCond .eq 6, 3) := by decide +kernel
theorem dX9_reverse_22 : decode cX9_reverse 22 = .ok (.bipush (-5), 2) := by decide +kernel
theorem dX9_reverse_24 : decode cX9_reverse 24 = .ok (.ireturn, 1) := by decide +kernel
theorem dX9_reverse_25 : decode cX9_reverse 25 = .ok (.aload_n 0, 1) := by decide +kernel
theorem dX9_reverse_26 : decode cX9_reverse 26 = .ok (.iconst (-1), 1) := by decide +kernel
theorem dX9_reverse_27 : decode cX9_reverse 27 = .ok (.iconst 0, 1) := by decide +kernel
theorem dX9_reverse_28 : decode cX9_reverse 28 = .ok (.invokevirtual 466, 3) := by decide +kernel
theorem dX9_reverse_31 : decode cX9_reverse 31 = .ok (.aload_n 0, 1) := by decide +kernel
theorem dX9_reverse_32 : decode cX9_reverse 32 = .ok (.invokevirtual 230, 3) := by decide +kernel
theorem dX9_reverse_35 : decode cX9_reverse 35 = .ok (.iconst 0, 1) := by decide +kernel
theorem dX9_reverse_36 : decode cX9_reverse 36 = .ok (.istore_n 1, 1) := by decide +kernel
theorem dX9_reverse_37 : decode cX9_reverse 37 = .ok (.iconst 0, 1) := by decide +kernel
theorem dX9_reverse_38 : decode cX9_reverse 38 = .ok (.istore_n 2, 1) := by decide +kernel
theorem dX9_reverse_39 : decode cX9_reverse 39 = .ok (.iload_n 2, 1) := by decide +kernel
theorem dX9_reverse_40 : decode cX9_reverse 40 = .ok (.aload_n 0, 1) := by decide +kernel
theorem dX9_reverse_41 : decode cX9_reverse 41 = .ok (.getfield 34, 3) := by decide +kernel
theorem dX9_reverse_44 : decode cX9_reverse 44 = .ok (.iconst 1, 1) := by decide +kernel
theorem dX9_reverse_45 : decode cX9_reverse 45 = .ok (.iaload, 1) := by decide +kernel
theorem dX9_reverse_46 : decode cX9_reverse 46 = .ok (.if_icmp .ge 26, 3) := by decide +kernel
theorem dX9_reverse_49 : decode cX9_reverse 49 = .ok (.iload_n 1, 1) := by decide +kernel
theorem dX9_reverse_50 : decode cX9_reverse 50 = .ok (.aload_n 0, 1) := by decide +kernel
theorem dX9_reverse_51 : decode cX9_reverse 51 = .ok (.getfield 53, 3) := by decide +kernel
theorem dX9_reverse_54 : decode cX9_reverse 54 = .ok (.iload_n 2, 1) := by decide +kernel
theorem dX9_reverse_55 : decode cX9_reverse 55 = .ok (.iaload, 1) := by decide +kernel
theorem dX9_reverse_56 : decode cX9_reverse 56 = .ok (.ifCond .ge 7, 3) := by decide +kernel
theorem dX9_reverse_59 : decode cX9_reverse 59 = .ok (.iconst 1, 1) := by decide +kernel
theorem dX9_reverse_60 : decode cX9_reverse 60 = .ok (.goto 4, 3) := by decide +kernel
theorem dX9_reverse_63 : decode cX9_reverse 63 = .ok (.iconst 0, 1) := by decide +kernel
theorem dX9_reverse_64 : decode cX9_reverse 64 = .ok (.iadd, 1) := by decide +kernel
theorem dX9_reverse_65 : decode cX9_reverse 65 = .ok (.istore_n 1, 1) := by decide +kernel
theorem dX9_reverse_66 : decode cX9_reverse 66 = .ok (.iinc 2 1, 3) := by decide +kernel
theorem dX9_reverse_69 : decode cX9_reverse 69 = .ok (.goto (-30), 3) := by decide +kernel
theorem dX9_reverse_72 : decode cX9_reverse 72 = .ok (.iload_n 1, 1) := by decide +kernel
theorem dX9_reverse_73 : decode cX9_reverse 73 = .ok (.ireturn, 1) := by decide +kernel
theorem dX9_undo_0 : decode cX9_undo 0 = .ok (.aload_n 0, 1) := by decide +kernel
theorem dX9_undo_1 : decode cX9_undo 1 = .ok (.iconst 0, 1) := by decide +kernel
theorem dX9_undo_2 : decode cX9_undo 2 = .ok (.putfield 71, 3) := by decide +kernel
theorem dX9_undo_5 : decode cX9_undo 5 = .ok (.aload_n 0, 1) := by decide +kernel
theorem dX9_undo_6 : decode cX9_undo 6 = .ok (.invokevirtual 297, 3) := by decide +kernel
theorem dX9_undo_9 : decode cX9_undo 9 = .ok (.ifCond .ne 6, 3) := by decide +kernel
theorem dX9_undo_12 : decode cX9_undo 12 = .ok (.bipush (-2), 2) := by decide +kernel
theorem dX9_undo_14 : decode cX9_undo 14 = .ok (.ireturn, 1) := by decide +kernel
theorem dX9_undo_15 : decode cX9_undo 15 = .ok (.aload_n 0, 1) := by decide +kernel
theorem dX9_undo_16 : decode cX9_undo 16 = .ok (.getfield 34, 3) := by decide +kernel
theorem dX9_undo_19 : decode cX9_undo 19 = .ok (.bipush 8, 2) := by decide +kernel
theorem dX9_undo_21 : decode cX9_undo 21 = .ok (.iaload, 1) := by decide +kernel
theorem dX9_undo_22 : decode cX9_undo 22 = .ok (.ifCond .ne 6, 3) := by decide +kernel
theorem dX9_undo_25 : decode cX9_undo 25 = .ok (.bipush (-5), 2) := by decide +kernel
theorem dX9_undo_27 : decode cX9_undo 27 = .ok (.ireturn, 1) := by decide +kernel
theorem dX9_undo_28 : decode cX9_undo 28 = .ok (.aload_n 0, 1) := by decide +kernel
theorem dX9_undo_29 : decode cX9_undo 29 = .ok (.getfield 34, 3) := by decide +kernel
theorem dX9_undo_32 : decode cX9_undo 32 = .ok (.bipush 8, 2) := by decide +kernel
theorem dX9_undo_34 : decode cX9_undo 34 = .ok (.dup2, 1) := by decide +kernel
theorem dX9_undo_35 : decode cX9_undo 35 = .ok (.iaload, 1) := by decide +kernel
theorem dX9_undo_36 : decode cX9_undo 36 = .ok (.iconst 1, 1) := by decide +kernel
theorem dX9_undo_37 : decode cX9_undo 37 = .ok (.isub, 1) := by decide +kernel
theorem dX9_undo_38 : decode cX9_undo 38 = .ok (.iastore, 1) := by decide +kernel
theorem dX9_undo_39 : decode cX9_undo 39 = .ok (.aload_n 0, 1) := by decide +kernel
theorem dX9_undo_40 : decode cX9_undo 40 = .ok (.getfield 34, 3) := by decide +kernel
theorem dX9_undo_43 : decode cX9_undo 43 = .ok (.bipush 8, 2) := by decide +kernel
theorem dX9_undo_45 : decode cX9_undo 45 = .ok (.iaload, 1) := by decide +kernel
theorem dX9_undo_46 : decode cX9_undo 46 = .ok (.ireturn, 1) := by decide +kernel
theorem dX9_anew_0 : decode cX9_anew 0 = .ok (.aload_n 0, 1) := by decide +kernel
theorem dX9_anew_1 : decode cX9_anew 1 = .ok (.iconst 0, 1) := by decide +kernel
theorem dX9_anew_2 : decode cX9_anew 2 = .ok (.putfield 71, 3) := by decide +kernel
theorem dX9_anew_5 : decode cX9_anew 5 = .ok (.aload_n 0, 1) := by decide +kernel
theorem dX9_anew_6 : decode cX9_anew 6 = .ok (.invokevirtual 297, 3) := by decide +kernel
theorem dX9_anew_9 : decode cX9_anew 9 = .ok (.ifCond .ne 6, 3) := by decide +kernel
theorem dX9_anew_12 : decode cX9_anew 12 = .ok (.bipush (-2), 2) := by decide +kernel
theorem dX9_anew_14 : decode cX9_anew 14 = .ok (.ireturn, 1) := by decide +kernel
theorem dX9_anew_15 : decode cX9_anew 15 = .ok (.aload_n 0, 1) := by decide +kernel
theorem dX9_anew_16 : decode cX9_anew 16 = .ok (.getfield 34, 3) := by decide +kernel
theorem dX9_anew_19 : decode cX9_anew 19 = .ok (.bipush 8, 2) := by decide +kernel
theorem dX9_anew_21 : decode cX9_anew 21 = .ok (.iaload, 1) := by decide +kernel
theorem dX9_anew_22 : decode cX9_anew 22 = .ok (.istore_n 1, 1) := by decide +kernel
theorem dX9_anew_23 : decode cX9_anew 23 = .ok (.aload_n 0, 1) := by decide +kernel
theorem dX9_anew_24 : decode cX9_anew 24 = .ok (.getfield 34, 3) := by decide +kernel
theorem dX9_anew_27 : decode cX9_anew 27 = .ok (.bipush 8, 2) := by decide +kernel
theorem dX9_anew_29 : decode cX9_anew 29 = .ok (.iconst 0, 1) := by decide +kernel
theorem dX9_anew_30 : decode cX9_anew 30 = .ok (.iastore, 1) := by decide +kernel
theorem dX9_anew_31 : decode cX9_anew 31 = .ok (.iload_n 1, 1) := by decide +kernel
theorem dX9_anew_32 : decode cX9_anew 32 = .ok (.ireturn, 1) := by decide +kernel
theorem dX9_drawnOf_0 : decode cX9_drawnOf 0 = .ok (.lload_n 1, 1) := by decide +kernel
theorem dX9_drawnOf_1 : decode cX9_drawnOf 1 = .ok (.lstore_n 3, 1) := by decide +kernel
theorem dX9_drawnOf_2 : decode cX9_drawnOf 2 = .ok (.iconst 0, 1) := by decide +kernel
theorem dX9_drawnOf_3 : decode cX9_drawnOf 3 = .ok (.istore 5, 2) := by decide +kernel
theorem dX9_drawnOf_5 : decode cX9_drawnOf 5 = .ok (.iconst 0, 1) := by decide +kernel
theorem dX9_drawnOf_6 : decode cX9_drawnOf 6 = .ok (.istore 6, 2) := by decide +kernel
theorem dX9_drawnOf_8 : decode cX9_drawnOf 8 = .ok (.iload 6, 2) := by decide +kernel
theorem dX9_drawnOf_10 : decode cX9_drawnOf 10 = .ok (.aload_n 0, 1) := by decide +kernel
theorem dX9_drawnOf_11 : decode cX9_drawnOf 11 = .ok (.getfield 34, 3) := by decide +kernel
theorem dX9_drawnOf_14 : decode cX9_drawnOf 14 = .ok (.iconst 1, 1) := by decide +kernel
theorem dX9_drawnOf_15 : decode cX9_drawnOf 15 = .ok (.iaload, 1) := by decide +kernel
theorem dX9_drawnOf_16 : decode cX9_drawnOf 16 = .ok (.if_icmp .ge 56, 3) := by decide +kernel
theorem dX9_drawnOf_19 : decode cX9_drawnOf 19 = .ok (.ldc2_w 469, 3) := by decide +kernel
theorem dX9_drawnOf_22 : decode cX9_drawnOf 22 = .ok (.lload_n 3, 1) := by decide +kernel
theorem dX9_drawnOf_23 : decode cX9_drawnOf 23 = .ok (.lmul, 1) := by decide +kernel
theorem dX9_drawnOf_24 : decode cX9_drawnOf 24 = .ok (.ldc2_w 471, 3) := by decide +kernel
theorem dX9_drawnOf_27 : decode cX9_drawnOf 27 = .ok (.ladd, 1) := by decide +kernel
theorem dX9_drawnOf_28 : decode cX9_drawnOf 28 = .ok (.ldc2_w 473, 3) := by decide +kernel
theorem dX9_drawnOf_31 : decode cX9_drawnOf 31 = .ok (.lrem, 1) := by decide +kernel
theorem dX9_drawnOf_32 : decode cX9_drawnOf 32 = .ok (.lstore_n 3, 1) := by decide +kernel
theorem dX9_drawnOf_33 : decode cX9_drawnOf 33 = .ok (.iload 5, 2) := by decide +kernel
theorem dX9_drawnOf_35 : decode cX9_drawnOf 35 = .ok (.lload_n 3, 1) := by decide +kernel
theorem dX9_drawnOf_36 : decode cX9_drawnOf 36 = .ok (.ldc2_w 475, 3) := by decide +kernel
theorem dX9_drawnOf_39 : decode cX9_drawnOf 39 = .ok (.ldiv, 1) := by decide +kernel
theorem dX9_drawnOf_40 : decode cX9_drawnOf 40 = .ok (.ldc2_w 380, 3) := by decide +kernel
theorem dX9_drawnOf_43 : decode cX9_drawnOf 43 = .ok (.lrem, 1) := by decide +kernel
theorem dX9_drawnOf_44 : decode cX9_drawnOf 44 = .ok (.aload_n 0, 1) := by decide +kernel
theorem dX9_drawnOf_45 : decode cX9_drawnOf 45 = .ok (.getfield 34, 3) := by decide +kernel
theorem dX9_drawnOf_48 : decode cX9_drawnOf 48 = .ok (.iconst 0, 1) := by decide +kernel
theorem dX9_drawnOf_49 : decode cX9_drawnOf 49 = .ok (.iaload, 1) := by decide +kernel
theorem dX9_drawnOf_50 : decode cX9_drawnOf 50 = .ok (.i2l, 1) := by decide +kernel
theorem dX9_drawnOf_51 : decode cX9_drawnOf 51 = .ok (.lcmp, 1) := by decide +kernel
theorem dX9_drawnOf_52 : decode cX9_drawnOf 52 = .ok (.ifCond .ge 10, 3) := by decide +kernel
theorem dX9_drawnOf_55 : decode cX9_drawnOf 55 = .ok (.iconst 1, 1) := by decide +kernel
theorem dX9_drawnOf_56 : decode cX9_drawnOf 56 = .ok (.iload 6, 2) := by decide +kernel
theorem dX9_drawnOf_58 : decode cX9_drawnOf 58 = .ok (.ishl, 1) := by decide +kernel
theorem dX9_drawnOf_59 : decode cX9_drawnOf 59 = .ok (.goto 4, 3) := by decide +kernel
theorem dX9_drawnOf_62 : decode cX9_drawnOf 62 = .ok (.iconst 0, 1) := by decide +kernel
theorem dX9_drawnOf_63 : decode cX9_drawnOf 63 = .ok (.ior, 1) := by decide +kernel
theorem dX9_drawnOf_64 : decode cX9_drawnOf 64 = .ok (.istore 5, 2) := by decide +kernel
theorem dX9_drawnOf_66 : decode cX9_drawnOf 66 = .ok (.iinc 6 1, 3) := by decide +kernel
theorem dX9_drawnOf_69 : decode cX9_drawnOf 69 = .ok (.goto (-61), 3) := by decide +kernel
theorem dX9_drawnOf_72 : decode cX9_drawnOf 72 = .ok (.iload 5, 2) := by decide +kernel
theorem dX9_drawnOf_74 : decode cX9_drawnOf 74 = .ok (.ireturn, 1) := by decide +kernel
theorem dX9_isDraw_0 : decode cX9_isDraw 0 = .ok (.aload_n 0, 1) := by decide +kernel
theorem dX9_isDraw_1 : decode cX9_isDraw 1 = .ok (.invokevirtual 297, 3) := by decide +kernel
theorem dX9_isDraw_4 : decode cX9_isDraw 4 = .ok (.ifCond .eq 19, 3) := by decide +kernel
theorem dX9_isDraw_7 : decode cX9_isDraw 7 = .ok (.iload_n 1, 1) := by decide +kernel
theorem dX9_isDraw_8 : decode cX9_isDraw 8 = .ok (.i2l, 1) := by decide +kernel
theorem dX9_isDraw_9 : decode cX9_isDraw 9 = .ok (.lconst 0, 1) := by decide +kernel
theorem dX9_isDraw_10 : decode cX9_isDraw 10 = .ok (.ldc2_w 477, 3) := by decide +kernel
theorem dX9_isDraw_13 : decode cX9_isDraw 13 = .ok (.invokestatic 76, 3) := by decide +kernel
theorem dX9_isDraw_16 : decode cX9_isDraw 16 = .ok (.ifCond .eq 7, 3) := by decide +kernel
theorem dX9_isDraw_19 : decode cX9_isDraw 19 = .ok (.iconst 1, 1) := by decide +kernel
theorem dX9_isDraw_20 : decode cX9_isDraw 20 = .ok (.goto 4, 3) := by decide +kernel
theorem dX9_isDraw_23 : decode cX9_isDraw 23 = .ok (.iconst 0, 1) := by decide +kernel
theorem dX9_isDraw_24 : decode cX9_isDraw 24 = .ok (.ireturn, 1) := by decide +kernel
theorem dX9_drawn_0 : decode cX9_drawn 0 = .ok (.aload_n 0, 1) := by decide +kernel
theorem dX9_drawn_1 : decode cX9_drawn 1 = .ok (.iconst 0, 1) := by decide +kernel
theorem dX9_drawn_2 : decode cX9_drawn 2 = .ok (.putfield 71, 3) := by decide +kernel
theorem dX9_drawn_5 : decode cX9_drawn 5 = .ok (.aload_n 0, 1) := by decide +kernel
theorem dX9_drawn_6 : decode cX9_drawn 6 = .ok (.iload_n 1, 1) := by decide +kernel
theorem dX9_drawn_7 : decode cX9_drawn 7 = .ok (.invokevirtual 479, 3) := by decide +kernel
theorem dX9_drawn_10 : decode cX9_drawn 10 = .ok (.ifCond .eq 12, 3) := by decide +kernel
theorem dX9_drawn_13 : decode cX9_drawn 13 = .ok (.aload_n 0, 1) := by decide +kernel
theorem dX9_drawn_14 : decode cX9_drawn 14 = .ok (.iload_n 1, 1) := by decide +kernel
theorem dX9_drawn_15 : decode cX9_drawn 15 = .ok (.i2l, 1) := by decide +kernel
theorem dX9_drawn_16 : decode cX9_drawn 16 = .ok (.invokevirtual 482, 3) := by decide +kernel
theorem dX9_drawn_19 : decode cX9_drawn 19 = .ok (.goto 5, 3) := by decide +kernel
theorem dX9_drawn_22 : decode cX9_drawn 22 = .ok (.bipush (-2), 2) := by decide +kernel
theorem dX9_drawn_24 : decode cX9_drawn 24 = .ok (.ireturn, 1) := by decide +kernel
theorem dX9_luck_0 : decode cX9_luck 0 = .ok (.aload_n 0, 1) := by decide +kernel
theorem dX9_luck_1 : decode cX9_luck 1 = .ok (.iconst 0, 1) := by decide +kernel
theorem dX9_luck_2 : decode cX9_luck 2 = .ok (.putfield 71, 3) := by decide +kernel
theorem dX9_luck_5 : decode cX9_luck 5 = .ok (.aload_n 0, 1) := by decide +kernel
theorem dX9_luck_6 : decode cX9_luck 6 = .ok (.iload_n 1, 1) := by decide +kernel
theorem dX9_luck_7 : decode cX9_luck 7 = .ok (.invokevirtual 479, 3) := by decide +kernel
theorem dX9_luck_10 : decode cX9_luck 10 = .ok (.ifCond .eq 25, 3) := by decide +kernel
theorem dX9_luck_13 : decode cX9_luck 13 = .ok (.iload_n 2, 1) := by decide +kernel
theorem dX9_luck_14 : decode cX9_luck 14 = .ok (.i2l, 1) := by decide +kernel
theorem dX9_luck_15 : decode cX9_luck 15 = .ok (.lconst 1, 1) := by decide +kernel
theorem dX9_luck_16 : decode cX9_luck 16 = .ok (.ldc2_w 486, 3) := by decide +kernel
theorem dX9_luck_19 : decode cX9_luck 19 = .ok (.invokestatic 76, 3) := by decide +kernel
theorem dX9_luck_22 : decode cX9_luck 22 = .ok (.ifCond .eq 13, 3) := by decide +kernel
theorem dX9_luck_25 : decode cX9_luck 25 = .ok (.aload_n 0, 1) := by decide +kernel
theorem dX9_luck_26 : decode cX9_luck 26 = .ok (.iload_n 3, 1) := by decide +kernel
theorem dX9_luck_27 : decode cX9_luck 27 = .ok (.iload 4, 2) := by decide +kernel
theorem dX9_luck_29 : decode cX9_luck 29 = .ok (.invokevirtual 318, 3) := by decide +kernel
theorem dX9_luck_32 : decode cX9_luck 32 = .ok (.ifCond .ne 6, 3) := by decide +kernel
theorem dX9_luck_35 : decode cX9_luck 35 = .ok (.bipush (-2), 2) := by decide +kernel
theorem dX9_luck_37 : decode cX9_luck 37 = .ok (.ireturn, 1) := by decide +kernel
theorem dX9_luck_38 : decode cX9_luck 38 = .ok (.iconst 0, 1) := by decide +kernel
theorem dX9_luck_39 : decode cX9_luck 39 = .ok (.istore 5, 2) := by decide +kernel
theorem dX9_luck_41 : decode cX9_luck 41 = .ok (.iconst 0, 1) := by decide +kernel
theorem dX9_luck_42 : decode cX9_luck 42 = .ok (.istore 6, 2) := by decide +kernel
theorem dX9_luck_44 : decode cX9_luck 44 = .ok (.iload 6, 2) := by decide +kernel
theorem dX9_luck_46 : decode cX9_luck 46 = .ok (.iload_n 2, 1) := by decide +kernel
theorem dX9_luck_47 : decode cX9_luck 47 = .ok (.if_icmp .ge 103, 3) := by decide +kernel
theorem dX9_luck_50 : decode cX9_luck 50 = .ok (.aload_n 0, 1) := by decide +kernel
theorem dX9_luck_51 : decode cX9_luck 51 = .ok (.invokevirtual 230, 3) := by decide +kernel
theorem dX9_luck_54 : decode cX9_luck 54 = .ok (.aload_n 0, 1) := by decide +kernel
theorem dX9_luck_55 : decode cX9_luck 55 = .ok (.iload_n 1, 1) := by decide +kernel
theorem dX9_luck_56 : decode cX9_luck 56 = .ok (.i2l, 1) := by decide +kernel
theorem dX9_luck_57 : decode cX9_luck 57 = .ok (.iload 6, 2) := by decide +kernel
theorem dX9_luck_59 : decode cX9_luck 59 = .ok (.i2l, 1) := by decide +kernel
theorem dX9_luck_60 : decode cX9_luck 60 = .ok (.ladd, 1) := by decide +kernel
theorem dX9_luck_61 : decode cX9_luck 61 = .ok (.invokevirtual 482, 3) := by decide +kernel
theorem dX9_luck_64 : decode cX9_luck 64 = .ok (.istore 7, 2) := by decide +kernel
theorem dX9_luck_66 : decode cX9_luck 66 = .ok (.iconst 0, 1) := by decide +kernel
theorem dX9_luck_67 : decode cX9_luck 67 = .ok (.istore 8, 2) := by decide +kernel
theorem dX9_luck_69 : decode cX9_luck 69 = .ok (.iload 8, 2) := by decide +kernel
theorem dX9_luck_71 : decode cX9_luck 71 = .ok (.aload_n 0, 1) := by decide +kernel
theorem dX9_luck_72 : decode cX9_luck 72 = .ok (.getfield 34, 3) := by decide +kernel
theorem dX9_luck_75 : decode cX9_luck 75 = .ok (.iconst 1, 1) := by decide +kernel
theorem dX9_luck_76 : decode cX9_luck 76 = .ok (.iaload, 1) := by decide +kernel
theorem dX9_luck_77 : decode cX9_luck 77 = .ok (.if_icmp .ge 27, 3) := by decide +kernel
theorem dX9_luck_80 : decode cX9_luck 80 = .ok (.iload 7, 2) := by decide +kernel
theorem dX9_luck_82 : decode cX9_luck 82 = .ok (.iload 8, 2) := by decide +kernel
theorem dX9_luck_84 : decode cX9_luck 84 = .ok (.invokestatic 424, 3) := by decide +kernel
theorem dX9_luck_87 : decode cX9_luck 87 = .ok (.ifCond .eq 11, 3) := by decide +kernel
theorem dX9_luck_90 : decode cX9_luck 90 = .ok (.aload_n 0, 1) := by decide +kernel
theorem dX9_luck_91 : decode cX9_luck 91 = .ok (.getfield 53, 3) := by decide +kernel
theorem dX9_luck_94 : decode cX9_luck 94 = .ok (.iload 8, 2) := by decide +kernel
theorem dX9_luck_96 : decode cX9_luck 96 = .ok (.iconst 0, 1) := by decide +kernel
theorem dX9_luck_97 : decode cX9_luck 97 = .ok (.iastore, 1) := by decide +kernel
theorem dX9_luck_98 : decode cX9_luck 98 = .ok (.iinc 8 1, 3) := by decide +kernel
theorem dX9_luck_101 : decode cX9_luck 101 = .ok (.goto (-32), 3) := by decide +kernel
theorem dX9_luck_104 : decode cX9_luck 104 = .ok (.iload 5, 2) := by decide +kernel
theorem dX9_luck_106 : decode cX9_luck 106 = .ok (.aload_n 0, 1) := by decide +kernel
theorem dX9_luck_107 : decode cX9_luck 107 = .ok (.aload_n 0, 1) := by decide +kernel
theorem dX9_luck_108 : decode cX9_luck 108 = .ok (.getfield 40, 3) := by decide +kernel
theorem dX9_luck_111 : decode cX9_luck 111 = .ok (.iload_n 3, 1) := by decide +kernel
theorem dX9_luck_112 : decode cX9_luck 112 = .ok (.iaload, 1) := by decide +kernel
theorem dX9_luck_113 : decode cX9_luck 113 = .ok (.iconst 1, 1) := by decide +kernel
theorem dX9_luck_114 : decode cX9_luck 114 = .ok (.invokevirtual 269, 3) := by decide +kernel
theorem dX9_luck_117 : decode cX9_luck 117 = .ok (.ifCond .eq 23, 3) := by decide +kernel
theorem dX9_luck_120 : decode cX9_luck 120 = .ok (.aload_n 0, 1) := by decide +kernel
theorem dX9_luck_121 : decode cX9_luck 121 = .ok (.getfield 246, 3) := by decide +kernel
theorem dX9_luck_124 : decode cX9_luck 124 = .ok (.iload 4, 2) := by decide +kernel
theorem dX9_luck_126 : decode cX9_luck 126 = .ok (.i2l, 1) := by decide +kernel
theorem dX9_luck_127 : decode cX9_luck 127 = .ok (.aload_n 0, 1) := by decide +kernel
theorem dX9_luck_128 : decode cX9_luck 128 = .ok (.getfield 243, 3) := by decide +kernel
theorem dX9_luck_131 : decode cX9_luck 131 = .ok (.lmul, 1) := by decide +kernel
theorem dX9_luck_132 : decode cX9_luck 132 = .ok (.lcmp, 1) := by decide +kernel
theorem dX9_luck_133 : decode cX9_luck 133 = .ok (.ifCond .gt 7, 3) := by decide +kernel
theorem dX9_luck_136 : decode cX9_luck 136 = .ok (.iconst 1, 1) := by decide +kernel
theorem dX9_luck_137 : decode cX9_luck 137 = .ok (.goto 4, 3) := by decide +kernel
theorem dX9_luck_140 : decode cX9_luck 140 = .ok (.iconst 0, 1) := by decide +kernel
theorem dX9_luck_141 : decode cX9_luck 141 = .ok (.iadd, 1) := by decide +kernel
theorem dX9_luck_142 : decode cX9_luck 142 = .ok (.istore 5, 2) := by decide +kernel
theorem dX9_luck_144 : decode cX9_luck 144 = .ok (.iinc 6 1, 3) := by decide +kernel
theorem dX9_luck_147 : decode cX9_luck 147 = .ok (.goto (-103), 3) := by decide +kernel
theorem dX9_luck_150 : decode cX9_luck 150 = .ok (.iload 5, 2) := by decide +kernel
theorem dX9_luck_152 : decode cX9_luck 152 = .ok (.ireturn, 1) := by decide +kernel
theorem dX9_grow_0 : decode cX9_grow 0 = .ok (.aload_n 0, 1) := by decide +kernel
theorem dX9_grow_1 : decode cX9_grow 1 = .ok (.iconst 0, 1) := by decide +kernel
theorem dX9_grow_2 : decode cX9_grow 2 = .ok (.putfield 71, 3) := by decide +kernel
theorem dX9_grow_5 : decode cX9_grow 5 = .ok (.aload_n 0, 1) := by decide +kernel
theorem dX9_grow_6 : decode cX9_grow 6 = .ok (.iload_n 1, 1) := by decide +kernel
theorem dX9_grow_7 : decode cX9_grow 7 = .ok (.invokevirtual 236, 3) := by decide +kernel
theorem dX9_grow_10 : decode cX9_grow 10 = .ok (.ifCond .eq 15, 3) := by decide +kernel
theorem dX9_grow_13 : decode cX9_grow 13 = .ok (.iload_n 2, 1) := by decide +kernel
theorem dX9_grow_14 : decode cX9_grow 14 = .ok (.i2l, 1) := by decide +kernel
theorem dX9_grow_15 : decode cX9_grow 15 = .ok (.lconst 0, 1) := by decide +kernel
theorem dX9_grow_16 : decode cX9_grow 16 = .ok (.ldc2_w 314, 3) := by decide +kernel
theorem dX9_grow_19 : decode cX9_grow 19 = .ok (.invokestatic 76, 3) := by decide +kernel
theorem dX9_grow_22 : decode cX9_grow 22 = .ok (.ifCond .ne 6, 3) := by decide +kernel
theorem dX9_grow_25 : decode cX9_grow 25 = .ok (.bipush (-2), 2) := by decide +kernel
theorem dX9_grow_27 : decode cX9_grow 27 = .ok (.ireturn, 1) := by decide +kernel
theorem dX9_grow_28 : decode cX9_grow 28 = .ok (.aload_n 0, 1) := by decide +kernel
theorem dX9_grow_29 : decode cX9_grow 29 = .ok (.getfield 34, 3) := by decide +kernel
theorem dX9_grow_32 : decode cX9_grow 32 = .ok (.bipush 8, 2) := by decide +kernel
theorem dX9_grow_34 : decode cX9_grow 34 = .ok (.iaload, 1) := by decide +kernel
theorem dX9_grow_35 : decode cX9_grow 35 = .ok (.ifCond .le 6, 3) := by decide +kernel
theorem dX9_grow_38 : decode cX9_grow 38 = .ok (.bipush (-5), 2) := by decide +kernel
theorem dX9_grow_40 : decode cX9_grow 40 = .ok (.ireturn, 1) := by decide +kernel
theorem dX9_grow_41 : decode cX9_grow 41 = .ok (.aload_n 0, 1) := by decide +kernel
theorem dX9_grow_42 : decode cX9_grow 42 = .ok (.getfield 40, 3) := by decide +kernel
theorem dX9_grow_45 : decode cX9_grow 45 = .ok (.iload_n 1, 1) := by decide +kernel
theorem dX9_grow_46 : decode cX9_grow 46 = .ok (.iaload, 1) := by decide +kernel
theorem dX9_grow_47 : decode cX9_grow 47 = .ok (.istore_n 3, 1) := by decide +kernel
theorem dX9_grow_48 : decode cX9_grow 48 = .ok (.aload_n 0, 1) := by decide +kernel
theorem dX9_grow_49 : decode cX9_grow 49 = .ok (.getfield 40, 3) := by decide +kernel
theorem dX9_grow_52 : decode cX9_grow 52 = .ok (.iload_n 1, 1) := by decide +kernel
theorem dX9_grow_53 : decode cX9_grow 53 = .ok (.iload_n 2, 1) := by decide +kernel
theorem dX9_grow_54 : decode cX9_grow 54 = .ok (.iastore, 1) := by decide +kernel
theorem dX9_grow_55 : decode cX9_grow 55 = .ok (.iload_n 3, 1) := by decide +kernel
theorem dX9_grow_56 : decode cX9_grow 56 = .ok (.ireturn, 1) := by decide +kernel
theorem dX9_count_0 : decode cX9_count 0 = .ok (.aload_n 0, 1) := by decide +kernel
theorem dX9_count_1 : decode cX9_count 1 = .ok (.iconst 0, 1) := by decide +kernel
theorem dX9_count_2 : decode cX9_count 2 = .ok (.putfield 71, 3) := by decide +kernel
theorem dX9_count_5 : decode cX9_count 5 = .ok (.iconst 0, 1) := by decide +kernel
theorem dX9_count_6 : decode cX9_count 6 = .ok (.istore_n 2, 1) := by decide +kernel
theorem dX9_count_7 : decode cX9_count 7 = .ok (.iload_n 1, 1) := by decide +kernel
theorem dX9_count_8 : decode cX9_count 8 = .ok (.tableswitch 180 0 9 #[56, 63, 70, 77, 84, 112, 127, 135, 142, 147], 56) := by decide +kernel
theorem dX9_count_64 : decode cX9_count 64 = .ok (.aload_n 0, 1) := by decide +kernel
theorem dX9_count_65 : decode cX9_count 65 = .ok (.getfield 34, 3) := by decide +kernel
theorem dX9_count_68 : decode cX9_count 68 = .ok (.iconst 1, 1) := by decide +kernel
theorem dX9_count_69 : decode cX9_count 69 = .ok (.iaload, 1) := by decide +kernel
theorem dX9_count_70 : decode cX9_count 70 = .ok (.ireturn, 1) := by decide +kernel
theorem dX9_count_71 : decode cX9_count 71 = .ok (.aload_n 0, 1) := by decide +kernel
theorem dX9_count_72 : decode cX9_count 72 = .ok (.getfield 34, 3) := by decide +kernel
theorem dX9_count_75 : decode cX9_count 75 = .ok (.iconst 2, 1) := by decide +kernel
theorem dX9_count_76 : decode cX9_count 76 = .ok (.iaload, 1) := by decide +kernel
theorem dX9_count_77 : decode cX9_count 77 = .ok (.ireturn, 1) := by decide +kernel
theorem dX9_count_78 : decode cX9_count 78 = .ok (.aload_n 0, 1) := by decide +kernel
theorem dX9_count_79 : decode cX9_count 79 = .ok (.getfield 34, 3) := by decide +kernel
theorem dX9_count_82 : decode cX9_count 82 = .ok (.iconst 3, 1) := by decide +kernel
theorem dX9_count_83 : decode cX9_count 83 = .ok (.iaload, 1) := by decide +kernel
theorem dX9_count_84 : decode cX9_count 84 = .ok (.ireturn, 1) := by decide +kernel
theorem dX9_count_85 : decode cX9_count 85 = .ok (.aload_n 0, 1) := by decide +kernel
theorem dX9_count_86 : decode cX9_count 86 = .ok (.getfield 34, 3) := by decide +kernel
theorem dX9_count_89 : decode cX9_count 89 = .ok (.iconst 0, 1) := by decide +kernel
theorem dX9_count_90 : decode cX9_count 90 = .ok (.iaload, 1) := by decide +kernel
theorem dX9_count_91 : decode cX9_count 91 = .ok (.ireturn, 1) := by decide +kernel
theorem dX9_count_92 : decode cX9_count 92 = .ok (.iconst 0, 1) := by decide +kernel
theorem dX9_count_93 : decode cX9_count 93 = .ok (.istore_n 3, 1) := by decide +kernel
theorem dX9_count_94 : decode cX9_count 94 = .ok (.iload_n 3, 1) := by decide +kernel
theorem dX9_count_95 : decode cX9_count 95 = .ok (.aload_n 0, 1) := by decide +kernel
theorem dX9_count_96 : decode cX9_count 96 = .ok (.getfield 34, 3) := by decide +kernel
theorem dX9_count_99 : decode cX9_count 99 = .ok (.iconst 1, 1) := by decide +kernel
theorem dX9_count_100 : decode cX9_count 100 = .ok (.iaload, 1) := by decide +kernel
theorem dX9_count_101 : decode cX9_count 101 = .ok (.if_icmp .ge 17, 3) := by decide +kernel
theorem dX9_count_104 : decode cX9_count 104 = .ok (.iload_n 2, 1) := by decide +kernel
theorem dX9_count_105 : decode cX9_count 105 = .ok (.aload_n 0, 1) := by decide +kernel
theorem dX9_count_106 : decode cX9_count 106 = .ok (.iload_n 3, 1) := by decide +kernel
theorem dX9_count_107 : decode cX9_count 107 = .ok (.invokevirtual 233, 3) := by decide +kernel
theorem dX9_count_110 : decode cX9_count 110 = .ok (.iadd, 1) := by decide +kernel
theorem dX9_count_111 : decode cX9_count 111 = .ok (.istore_n 2, 1) := by decide +kernel
theorem dX9_count_112 : decode cX9_count 112 = .ok (.iinc 3 1, 3) := by decide +kernel
theorem dX9_count_115 : decode cX9_count 115 = .ok (.goto (-21), 3) := by decide +kernel
theorem dX9_count_118 : decode cX9_count 118 = .ok (.iload_n 2, 1) := by decide +kernel
theorem dX9_count_119 : decode cX9_count 119 = .ok (.ireturn, 1) := by decide +kernel
theorem dX9_count_120 : decode cX9_count 120 = .ok (.aload_n 0, 1) := by decide +kernel
theorem dX9_count_121 : decode cX9_count 121 = .ok (.getfield 34, 3) := by decide +kernel
theorem dX9_count_124 : decode cX9_count 124 = .ok (.iconst 4, 1) := by decide +kernel
theorem dX9_count_125 : decode cX9_count 125 = .ok (.iaload, 1) := by decide +kernel
theorem dX9_count_126 : decode cX9_count 126 = .ok (.ifCond .le 7, 3) := by decide +kernel
theorem dX9_count_129 : decode cX9_count 129 = .ok (.iconst 1, 1) := by decide +kernel
theorem dX9_count_130 : decode cX9_count 130 = .ok (.goto 4, 3) := by decide +kernel
theorem dX9_count_133 : decode cX9_count 133 = .ok (.iconst 0, 1) := by decide +kernel
theorem dX9_count_134 : decode cX9_count 134 = .ok (.ireturn, 1) := by decide +kernel
theorem dX9_count_135 : decode cX9_count 135 = .ok (.aload_n 0, 1) := by decide +kernel
theorem dX9_count_136 : decode cX9_count 136 = .ok (.getfield 34, 3) := by decide +kernel
theorem dX9_count_139 : decode cX9_count 139 = .ok (.bipush 8, 2) := by decide +kernel
theorem dX9_count_141 : decode cX9_count 141 = .ok (.iaload, 1) := by decide +kernel
theorem dX9_count_142 : decode cX9_count 142 = .ok (.ireturn, 1) := by decide +kernel
theorem dX9_count_143 : decode cX9_count 143 = .ok (.aload_n 0, 1) := by decide +kernel
theorem dX9_count_144 : decode cX9_count 144 = .ok (.getfield 31, 3) := by decide +kernel
theorem dX9_count_147 : decode cX9_count 147 = .ok (.iconst 0, 1) := by decide +kernel
theorem dX9_count_148 : decode cX9_count 148 = .ok (.iaload, 1) := by decide +kernel
theorem dX9_count_149 : decode cX9_count 149 = .ok (.ireturn, 1) := by decide +kernel
theorem dX9_count_150 : decode cX9_count 150 = .ok (.aload_n 0, 1) := by decide +kernel
theorem dX9_count_151 : decode cX9_count 151 = .ok (.getfield 88, 3) := by decide +kernel
theorem dX9_count_154 : decode cX9_count 154 = .ok (.ireturn, 1) := by decide +kernel
theorem dX9_count_155 : decode cX9_count 155 = .ok (.iconst 0, 1) := by decide +kernel
theorem dX9_count_156 : decode cX9_count 156 = .ok (.istore_n 3, 1) := by decide +kernel
theorem dX9_count_157 : decode cX9_count 157 = .ok (.iload_n 3, 1) := by decide +kernel
theorem dX9_count_158 : decode cX9_count 158 = .ok (.iconst 4, 1) := by decide +kernel
theorem dX9_count_159 : decode cX9_count 159 = .ok (.if_icmp .ge 27, 3) := by decide +kernel
theorem dX9_count_162 : decode cX9_count 162 = .ok (.iload_n 2, 1) := by decide +kernel
theorem dX9_count_163 : decode cX9_count 163 = .ok (.aload_n 0, 1) := by decide +kernel
theorem dX9_count_164 : decode cX9_count 164 = .ok (.getfield 7, 3) := by decide +kernel
theorem dX9_count_167 : decode cX9_count 167 = .ok (.iload_n 3, 1) := by decide +kernel
theorem dX9_count_168 : decode cX9_count 168 = .ok (.iaload, 1) := by decide +kernel
theorem dX9_count_169 : decode cX9_count 169 = .ok (.iconst (-1), 1) := by decide +kernel
theorem dX9_count_170 : decode cX9_count 170 = .ok (.if_icmp .ne 7, 3) := by decide +kernel
theorem dX9_count_173 : decode cX9_count 173 = .ok (.iconst 0, 1) := by decide +kernel
theorem dX9_count_174 : decode cX9_count 174 = .ok (.goto 4, 3) := by decide +kernel
theorem dX9_count_177 : decode cX9_count 177 = .ok (.iconst 1, 1) := by decide +kernel
theorem dX9_count_178 : decode cX9_count 178 = .ok (.iadd, 1) := by decide +kernel
theorem dX9_count_179 : decode cX9_count 179 = .ok (.istore_n 2, 1) := by decide +kernel
theorem dX9_count_180 : decode cX9_count 180 = .ok (.iinc 3 1, 3) := by decide +kernel
theorem dX9_count_183 : decode cX9_count 183 = .ok (.goto (-26), 3) := by decide +kernel
theorem dX9_count_186 : decode cX9_count 186 = .ok (.iload_n 2, 1) := by decide +kernel
theorem dX9_count_187 : decode cX9_count 187 = .ok (.ireturn, 1) := by decide +kernel
theorem dX9_count_188 : decode cX9_count 188 = .ok (.iconst (-1), 1) := by decide +kernel
theorem dX9_count_189 : decode cX9_count 189 = .ok (.ireturn, 1) := by decide +kernel
theorem dX9_image_0 : decode cX9_image 0 = .ok (.aload_n 0, 1) := by decide +kernel
theorem dX9_image_1 : decode cX9_image 1 = .ok (.iconst 0, 1) := by decide +kernel
theorem dX9_image_2 : decode cX9_image 2 = .ok (.putfield 71, 3) := by decide +kernel
theorem dX9_image_5 : decode cX9_image 5 = .ok (.iload_n 1, 1) := by decide +kernel
theorem dX9_image_6 : decode cX9_image 6 = .ok (.i2l, 1) := by decide +kernel
theorem dX9_image_7 : decode cX9_image 7 = .ok (.lconst 0, 1) := by decide +kernel
theorem dX9_image_8 : decode cX9_image 8 = .ok (.ldc2_w 378, 3) := by decide +kernel
theorem dX9_image_11 : decode cX9_image 11 = .ok (.invokestatic 76, 3) := by decide +kernel
theorem dX9_image_14 : decode cX9_image 14 = .ok (.ifCond .ne 6, 3) := by decide +kernel
theorem dX9_image_17 : decode cX9_image 17 = .ok (.bipush (-2), 2) := by decide +kernel
theorem dX9_image_19 : decode cX9_image 19 = .ok (.ireturn, 1) := by decide +kernel
theorem dX9_image_20 : decode cX9_image 20 = .ok (.aload_n 0, 1) := by decide +kernel
theorem dX9_image_21 : decode cX9_image 21 = .ok (.iconst 0, 1) := by decide +kernel
theorem dX9_image_22 : decode cX9_image 22 = .ok (.iconst 1, 1) := by decide +kernel
theorem dX9_image_23 : decode cX9_image 23 = .ok (.iload_n 1, 1) := by decide +kernel
theorem dX9_image_24 : decode cX9_image 24 = .ok (.iadd, 1) := by decide +kernel
theorem dX9_image_25 : decode cX9_image 25 = .ok (.invokevirtual 220, 3) := by decide +kernel
theorem dX9_image_28 : decode cX9_image 28 = .ok (.aload_n 0, 1) := by decide +kernel
theorem dX9_image_29 : decode cX9_image 29 = .ok (.getfield 49, 3) := by decide +kernel
theorem dX9_image_32 : decode cX9_image 32 = .ok (.iload_n 1, 1) := by decide +kernel
theorem dX9_image_33 : decode cX9_image 33 = .ok (.iconst 1, 1) := by decide +kernel
theorem dX9_image_34 : decode cX9_image 34 = .ok (.bastore, 1) := by decide +kernel
theorem dX9_image_35 : decode cX9_image 35 = .ok (.iconst 0, 1) := by decide +kernel
theorem dX9_image_36 : decode cX9_image 36 = .ok (.ireturn, 1) := by decide +kernel
theorem dX9_back__0 : decode cX9_back_ 0 = .ok (.aload_n 0, 1) := by decide +kernel
theorem dX9_back__1 : decode cX9_back_ 1 = .ok (.iconst 0, 1) := by decide +kernel
theorem dX9_back__2 : decode cX9_back_ 2 = .ok (.putfield 71, 3) := by decide +kernel
theorem dX9_back__5 : decode cX9_back_ 5 = .ok (.iload_n 1, 1) := by decide +kernel
theorem dX9_back__6 : decode cX9_back_ 6 = .ok (.i2l, 1) := by decide +kernel
theorem dX9_back__7 : decode cX9_back_ 7 = .ok (.lconst 0, 1) := by decide +kernel
theorem dX9_back__8 : decode cX9_back_ 8 = .ok (.ldc2_w 378, 3) := by decide +kernel
theorem dX9_back__11 : decode cX9_back_ 11 = .ok (.invokestatic 76, 3) := by decide +kernel
theorem dX9_back__14 : decode cX9_back_ 14 = .ok (.ifCond .ne 6, 3) := by decide +kernel
theorem dX9_back__17 : decode cX9_back_ 17 = .ok (.bipush (-2), 2) := by decide +kernel
theorem dX9_back__19 : decode cX9_back_ 19 = .ok (.ireturn, 1) := by decide +kernel
theorem dX9_back__20 : decode cX9_back_ 20 = .ok (.aload_n 0, 1) := by decide +kernel
theorem dX9_back__21 : decode cX9_back_ 21 = .ok (.getfield 49, 3) := by decide +kernel
theorem dX9_back__24 : decode cX9_back_ 24 = .ok (.iload_n 1, 1) := by decide +kernel
theorem dX9_back__25 : decode cX9_back_ 25 = .ok (.baload, 1) := by decide +kernel
theorem dX9_back__26 : decode cX9_back_ 26 = .ok (.ifCond .ne 6, 3) := by decide +kernel
theorem dX9_back__29 : decode cX9_back_ 29 = .ok (.bipush (-6), 2) := by decide +kernel
theorem dX9_back__31 : decode cX9_back_ 31 = .ok (.ireturn, 1) := by decide +kernel
theorem dX9_back__32 : decode cX9_back_ 32 = .ok (.aload_n 0, 1) := by decide +kernel
theorem dX9_back__33 : decode cX9_back_ 33 = .ok (.iconst 1, 1) := by decide +kernel
theorem dX9_back__34 : decode cX9_back_ 34 = .ok (.iload_n 1, 1) := by decide +kernel
theorem dX9_back__35 : decode cX9_back_ 35 = .ok (.iadd, 1) := by decide +kernel
theorem dX9_back__36 : decode cX9_back_ 36 = .ok (.iconst 0, 1) := by decide +kernel
theorem dX9_back__37 : decode cX9_back_ 37 = .ok (.invokevirtual 220, 3) := by decide +kernel
theorem dX9_back__40 : decode cX9_back_ 40 = .ok (.iconst 0, 1) := by decide +kernel
theorem dX9_back__41 : decode cX9_back_ 41 = .ok (.ireturn, 1) := by decide +kernel
theorem dJ6_bitCount_0f7a4_0 : decode cJ6_bitCount_0f7a4 0 = .ok (.iload_n 0, 1) := by decide +kernel
theorem dJ6_bitCount_0f7a4_1 : decode cJ6_bitCount_0f7a4 1 = .ok (.iload_n 0, 1) := by decide +kernel
theorem dJ6_bitCount_0f7a4_2 : decode cJ6_bitCount_0f7a4 2 = .ok (.iconst 1, 1) := by decide +kernel
theorem dJ6_bitCount_0f7a4_3 : decode cJ6_bitCount_0f7a4 3 = .ok (.iushr, 1) := by decide +kernel
theorem dJ6_bitCount_0f7a4_4 : decode cJ6_bitCount_0f7a4 4 = .ok (.ldc_w 265, 3) := by decide +kernel
theorem dJ6_bitCount_0f7a4_7 : decode cJ6_bitCount_0f7a4 7 = .ok (.iand, 1) := by decide +kernel
theorem dJ6_bitCount_0f7a4_8 : decode cJ6_bitCount_0f7a4 8 = .ok (.isub, 1) := by decide +kernel
theorem dJ6_bitCount_0f7a4_9 : decode cJ6_bitCount_0f7a4 9 = .ok (.istore_n 0, 1) := by decide +kernel
theorem dJ6_bitCount_0f7a4_10 : decode cJ6_bitCount_0f7a4 10 = .ok (.iload_n 0, 1) := by decide +kernel
theorem dJ6_bitCount_0f7a4_11 : decode cJ6_bitCount_0f7a4 11 = .ok (.ldc_w 266, 3) := by decide +kernel
theorem dJ6_bitCount_0f7a4_14 : decode cJ6_bitCount_0f7a4 14 = .ok (.iand, 1) := by decide +kernel
theorem dJ6_bitCount_0f7a4_15 : decode cJ6_bitCount_0f7a4 15 = .ok (.iload_n 0, 1) := by decide +kernel
theorem dJ6_bitCount_0f7a4_16 : decode cJ6_bitCount_0f7a4 16 = .ok (.iconst 2, 1) := by decide +kernel
theorem dJ6_bitCount_0f7a4_17 : decode cJ6_bitCount_0f7a4 17 = .ok (.iushr, 1) := by decide +kernel
theorem dJ6_bitCount_0f7a4_18 : decode cJ6_bitCount_0f7a4 18 = .ok (.ldc_w 266, 3) := by decide +kernel
theorem dJ6_bitCount_0f7a4_21 : decode cJ6_bitCount_0f7a4 21 = .ok (.iand, 1) := by decide +kernel
theorem dJ6_bitCount_0f7a4_22 : decode cJ6_bitCount_0f7a4 22 = .ok (.iadd, 1) := by decide +kernel
theorem dJ6_bitCount_0f7a4_23 : decode cJ6_bitCount_0f7a4 23 = .ok (.istore_n 0, 1) := by decide +kernel
theorem dJ6_bitCount_0f7a4_24 : decode cJ6_bitCount_0f7a4 24 = .ok (.iload_n 0, 1) := by decide +kernel
theorem dJ6_bitCount_0f7a4_25 : decode cJ6_bitCount_0f7a4 25 = .ok (.iload_n 0, 1) := by decide +kernel
theorem dJ6_bitCount_0f7a4_26 : decode cJ6_bitCount_0f7a4 26 = .ok (.iconst 4, 1) := by decide +kernel
theorem dJ6_bitCount_0f7a4_27 : decode cJ6_bitCount_0f7a4 27 = .ok (.iushr, 1) := by decide +kernel
theorem dJ6_bitCount_0f7a4_28 : decode cJ6_bitCount_0f7a4 28 = .ok (.iadd, 1) := by decide +kernel
theorem dJ6_bitCount_0f7a4_29 : decode cJ6_bitCount_0f7a4 29 = .ok (.ldc_w 267, 3) := by decide +kernel
theorem dJ6_bitCount_0f7a4_32 : decode cJ6_bitCount_0f7a4 32 = .ok (.iand, 1) := by decide +kernel
theorem dJ6_bitCount_0f7a4_33 : decode cJ6_bitCount_0f7a4 33 = .ok (.istore_n 0, 1) := by decide +kernel
theorem dJ6_bitCount_0f7a4_34 : decode cJ6_bitCount_0f7a4 34 = .ok (.iload_n 0, 1) := by decide +kernel
theorem dJ6_bitCount_0f7a4_35 : decode cJ6_bitCount_0f7a4 35 = .ok (.iload_n 0, 1) := by decide +kernel
theorem dJ6_bitCount_0f7a4_36 : decode cJ6_bitCount_0f7a4 36 = .ok (.bipush 8, 2) := by decide +kernel
theorem dJ6_bitCount_0f7a4_38 : decode cJ6_bitCount_0f7a4 38 = .ok (.iushr, 1) := by decide +kernel
theorem dJ6_bitCount_0f7a4_39 : decode cJ6_bitCount_0f7a4 39 = .ok (.iadd, 1) := by decide +kernel
theorem dJ6_bitCount_0f7a4_40 : decode cJ6_bitCount_0f7a4 40 = .ok (.istore_n 0, 1) := by decide +kernel
theorem dJ6_bitCount_0f7a4_41 : decode cJ6_bitCount_0f7a4 41 = .ok (.iload_n 0, 1) := by decide +kernel
theorem dJ6_bitCount_0f7a4_42 : decode cJ6_bitCount_0f7a4 42 = .ok (.iload_n 0, 1) := by decide +kernel
theorem dJ6_bitCount_0f7a4_43 : decode cJ6_bitCount_0f7a4 43 = .ok (.bipush 16, 2) := by decide +kernel
theorem dJ6_bitCount_0f7a4_45 : decode cJ6_bitCount_0f7a4 45 = .ok (.iushr, 1) := by decide +kernel
theorem dJ6_bitCount_0f7a4_46 : decode cJ6_bitCount_0f7a4 46 = .ok (.iadd, 1) := by decide +kernel
theorem dJ6_bitCount_0f7a4_47 : decode cJ6_bitCount_0f7a4 47 = .ok (.istore_n 0, 1) := by decide +kernel
theorem dJ6_bitCount_0f7a4_48 : decode cJ6_bitCount_0f7a4 48 = .ok (.iload_n 0, 1) := by decide +kernel
theorem dJ6_bitCount_0f7a4_49 : decode cJ6_bitCount_0f7a4 49 = .ok (.bipush 63, 2) := by decide +kernel
theorem dJ6_bitCount_0f7a4_51 : decode cJ6_bitCount_0f7a4 51 = .ok (.iand, 1) := by decide +kernel
theorem dJ6_bitCount_0f7a4_52 : decode cJ6_bitCount_0f7a4 52 = .ok (.ireturn, 1) := by decide +kernel
theorem dJ13_compare_74951_0 : decode cJ13_compare_74951 0 = .ok (.lload_n 0, 1) := by decide +kernel
theorem dJ13_compare_74951_1 : decode cJ13_compare_74951 1 = .ok (.lload_n 2, 1) := by decide +kernel
theorem dJ13_compare_74951_2 : decode cJ13_compare_74951 2 = .ok (.lcmp, 1) := by decide +kernel
theorem dJ13_compare_74951_3 : decode cJ13_compare_74951 3 = .ok (.ifCond .ge 7, 3) := by decide +kernel
theorem dJ13_compare_74951_6 : decode cJ13_compare_74951 6 = .ok (.iconst (-1), 1) := by decide +kernel
theorem dJ13_compare_74951_7 : decode cJ13_compare_74951 7 = .ok (.goto 14, 3) := by decide +kernel
theorem dJ13_compare_74951_10 : decode cJ13_compare_74951 10 = .ok (.lload_n 0, 1) := by decide +kernel
theorem dJ13_compare_74951_11 : decode cJ13_compare_74951 11 = .ok (.lload_n 2, 1) := by decide +kernel
theorem dJ13_compare_74951_12 : decode cJ13_compare_74951 12 = .ok (.lcmp, 1) := by decide +kernel
theorem dJ13_compare_74951_13 : decode cJ13_compare_74951 13 = .ok (.ifCond .ne 7, 3) := by decide +kernel
theorem dJ13_compare_74951_16 : decode cJ13_compare_74951 16 = .ok (.iconst 0, 1) := by decide +kernel
theorem dJ13_compare_74951_17 : decode cJ13_compare_74951 17 = .ok (.goto 4, 3) := by decide +kernel
theorem dJ13_compare_74951_20 : decode cJ13_compare_74951 20 = .ok (.iconst 1, 1) := by decide +kernel
theorem dJ13_compare_74951_21 : decode cJ13_compare_74951 21 = .ok (.ireturn, 1) := by decide +kernel
theorem dJ9_floorDiv_f86c9_0 : decode cJ9_floorDiv_f86c9 0 = .ok (.lload_n 0, 1) := by decide +kernel
theorem dJ9_floorDiv_f86c9_1 : decode cJ9_floorDiv_f86c9 1 = .ok (.lload_n 2, 1) := by decide +kernel
theorem dJ9_floorDiv_f86c9_2 : decode cJ9_floorDiv_f86c9 2 = .ok (.ldiv, 1) := by decide +kernel
theorem dJ9_floorDiv_f86c9_3 : decode cJ9_floorDiv_f86c9 3 = .ok (.lstore 4, 2) := by decide +kernel
theorem dJ9_floorDiv_f86c9_5 : decode cJ9_floorDiv_f86c9 5 = .ok (.lload_n 0, 1) := by decide +kernel
theorem dJ9_floorDiv_f86c9_6 : decode cJ9_floorDiv_f86c9 6 = .ok (.lload_n 2, 1) := by decide +kernel
theorem dJ9_floorDiv_f86c9_7 : decode cJ9_floorDiv_f86c9 7 = .ok (.lxor, 1) := by decide +kernel
theorem dJ9_floorDiv_f86c9_8 : decode cJ9_floorDiv_f86c9 8 = .ok (.lconst 0, 1) := by decide +kernel
theorem dJ9_floorDiv_f86c9_9 : decode cJ9_floorDiv_f86c9 9 = .ok (.lcmp, 1) := by decide +kernel
theorem dJ9_floorDiv_f86c9_10 : decode cJ9_floorDiv_f86c9 10 = .ok (.ifCond .ge 17, 3) := by decide +kernel
theorem dJ9_floorDiv_f86c9_13 : decode cJ9_floorDiv_f86c9 13 = .ok (.lload 4, 2) := by decide +kernel
theorem dJ9_floorDiv_f86c9_15 : decode cJ9_floorDiv_f86c9 15 = .ok (.lload_n 2, 1) := by decide +kernel
theorem dJ9_floorDiv_f86c9_16 : decode cJ9_floorDiv_f86c9 16 = .ok (.lmul, 1) := by decide +kernel
theorem dJ9_floorDiv_f86c9_17 : decode cJ9_floorDiv_f86c9 17 = .ok (.lload_n 0, 1) := by decide +kernel
theorem dJ9_floorDiv_f86c9_18 : decode cJ9_floorDiv_f86c9 18 = .ok (.lcmp, 1) := by decide +kernel
theorem dJ9_floorDiv_f86c9_19 : decode cJ9_floorDiv_f86c9 19 = .ok (.ifCond .eq 8, 3) := by decide +kernel
theorem dJ9_floorDiv_f86c9_22 : decode cJ9_floorDiv_f86c9 22 = .ok (.lload 4, 2) := by decide +kernel
theorem dJ9_floorDiv_f86c9_24 : decode cJ9_floorDiv_f86c9 24 = .ok (.lconst 1, 1) := by decide +kernel
theorem dJ9_floorDiv_f86c9_25 : decode cJ9_floorDiv_f86c9 25 = .ok (.lsub, 1) := by decide +kernel
theorem dJ9_floorDiv_f86c9_26 : decode cJ9_floorDiv_f86c9 26 = .ok (.lreturn, 1) := by decide +kernel
theorem dJ9_floorDiv_f86c9_27 : decode cJ9_floorDiv_f86c9 27 = .ok (.lload 4, 2) := by decide +kernel
theorem dJ9_floorDiv_f86c9_29 : decode cJ9_floorDiv_f86c9 29 = .ok (.lreturn, 1) := by decide +kernel
theorem dJ9_max_7cf53_0 : decode cJ9_max_7cf53 0 = .ok (.iload_n 0, 1) := by decide +kernel
theorem dJ9_max_7cf53_1 : decode cJ9_max_7cf53 1 = .ok (.iload_n 1, 1) := by decide +kernel
theorem dJ9_max_7cf53_2 : decode cJ9_max_7cf53 2 = .ok (.if_icmp .lt 7, 3) := by decide +kernel
theorem dJ9_max_7cf53_5 : decode cJ9_max_7cf53 5 = .ok (.iload_n 0, 1) := by decide +kernel
theorem dJ9_max_7cf53_6 : decode cJ9_max_7cf53 6 = .ok (.goto 4, 3) := by decide +kernel
theorem dJ9_max_7cf53_9 : decode cJ9_max_7cf53 9 = .ok (.iload_n 1, 1) := by decide +kernel
theorem dJ9_max_7cf53_10 : decode cJ9_max_7cf53 10 = .ok (.ireturn, 1) := by decide +kernel
theorem dJ9_max_f86c9_0 : decode cJ9_max_f86c9 0 = .ok (.lload_n 0, 1) := by decide +kernel
theorem dJ9_max_f86c9_1 : decode cJ9_max_f86c9 1 = .ok (.lload_n 2, 1) := by decide +kernel
theorem dJ9_max_f86c9_2 : decode cJ9_max_f86c9 2 = .ok (.lcmp, 1) := by decide +kernel
theorem dJ9_max_f86c9_3 : decode cJ9_max_f86c9 3 = .ok (.ifCond .lt 7, 3) := by decide +kernel
theorem dJ9_max_f86c9_6 : decode cJ9_max_f86c9 6 = .ok (.lload_n 0, 1) := by decide +kernel
theorem dJ9_max_f86c9_7 : decode cJ9_max_f86c9 7 = .ok (.goto 4, 3) := by decide +kernel
theorem dJ9_max_f86c9_10 : decode cJ9_max_f86c9 10 = .ok (.lload_n 2, 1) := by decide +kernel
theorem dJ9_max_f86c9_11 : decode cJ9_max_f86c9 11 = .ok (.lreturn, 1) := by decide +kernel
theorem dJ9_min_7cf53_0 : decode cJ9_min_7cf53 0 = .ok (.iload_n 0, 1) := by decide +kernel
theorem dJ9_min_7cf53_1 : decode cJ9_min_7cf53 1 = .ok (.iload_n 1, 1) := by decide +kernel
theorem dJ9_min_7cf53_2 : decode cJ9_min_7cf53 2 = .ok (.if_icmp .gt 7, 3) := by decide +kernel
theorem dJ9_min_7cf53_5 : decode cJ9_min_7cf53 5 = .ok (.iload_n 0, 1) := by decide +kernel
theorem dJ9_min_7cf53_6 : decode cJ9_min_7cf53 6 = .ok (.goto 4, 3) := by decide +kernel
theorem dJ9_min_7cf53_9 : decode cJ9_min_7cf53 9 = .ok (.iload_n 1, 1) := by decide +kernel
theorem dJ9_min_7cf53_10 : decode cJ9_min_7cf53 10 = .ok (.ireturn, 1) := by decide +kernel
theorem dJ9_min_f86c9_0 : decode cJ9_min_f86c9 0 = .ok (.lload_n 0, 1) := by decide +kernel
theorem dJ9_min_f86c9_1 : decode cJ9_min_f86c9 1 = .ok (.lload_n 2, 1) := by decide +kernel
theorem dJ9_min_f86c9_2 : decode cJ9_min_f86c9 2 = .ok (.lcmp, 1) := by decide +kernel
theorem dJ9_min_f86c9_3 : decode cJ9_min_f86c9 3 = .ok (.ifCond .gt 7, 3) := by decide +kernel
theorem dJ9_min_f86c9_6 : decode cJ9_min_f86c9 6 = .ok (.lload_n 0, 1) := by decide +kernel
theorem dJ9_min_f86c9_7 : decode cJ9_min_f86c9 7 = .ok (.goto 4, 3) := by decide +kernel
theorem dJ9_min_f86c9_10 : decode cJ9_min_f86c9 10 = .ok (.lload_n 2, 1) := by decide +kernel
theorem dJ9_min_f86c9_11 : decode cJ9_min_f86c9 11 = .ok (.lreturn, 1) := by decide +kernel
theorem dJ0_length_8abf5_0 : decode cJ0_length_8abf5 0 = .ok (.aload_n 0, 1) := by decide +kernel
theorem dJ0_length_8abf5_1 : decode cJ0_length_8abf5 1 = .ok (.getfield 9, 3) := by decide +kernel
theorem dJ0_length_8abf5_4 : decode cJ0_length_8abf5 4 = .ok (.arraylength, 1) := by decide +kernel
theorem dJ0_length_8abf5_5 : decode cJ0_length_8abf5 5 = .ok (.aload_n 0, 1) := by decide +kernel
theorem dJ0_length_8abf5_6 : decode cJ0_length_8abf5 6 = .ok (.invokevirtual 335, 3) := by decide +kernel
theorem dJ0_length_8abf5_9 : decode cJ0_length_8abf5 9 = .ok (.ishr, 1) := by decide +kernel
theorem dJ0_length_8abf5_10 : decode cJ0_length_8abf5 10 = .ok (.ireturn, 1) := by decide +kernel
theorem dJ0_charAt_5068e_0 : decode cJ0_charAt_5068e 0 = .ok (.aload_n 0, 1) := by decide +kernel
theorem dJ0_charAt_5068e_1 : decode cJ0_charAt_5068e 1 = .ok (.invokevirtual 492, 3) := by decide +kernel
theorem dJ0_charAt_5068e_4 : decode cJ0_charAt_5068e 4 = .ok (.ifCond .eq 12, 3) := by decide +kernel
theorem dJ0_charAt_5068e_7 : decode cJ0_charAt_5068e 7 = .ok (.aload_n 0, 1) := by decide +kernel
theorem dJ0_charAt_5068e_8 : decode cJ0_charAt_5068e 8 = .ok (.getfield 9, 3) := by decide +kernel
theorem dJ0_charAt_5068e_11 : decode cJ0_charAt_5068e 11 = .ok (.iload_n 1, 1) := by decide +kernel
theorem dJ0_charAt_5068e_12 : decode cJ0_charAt_5068e 12 = .ok (.invokestatic 495, 3) := by decide +kernel
theorem dJ0_charAt_5068e_15 : decode cJ0_charAt_5068e 15 = .ok (.ireturn, 1) := by decide +kernel
theorem dJ0_charAt_5068e_16 : decode cJ0_charAt_5068e 16 = .ok (.aload_n 0, 1) := by decide +kernel
theorem dJ0_charAt_5068e_17 : decode cJ0_charAt_5068e 17 = .ok (.getfield 9, 3) := by decide +kernel
theorem dJ0_charAt_5068e_20 : decode cJ0_charAt_5068e 20 = .ok (.iload_n 1, 1) := by decide +kernel
theorem dJ0_charAt_5068e_21 : decode cJ0_charAt_5068e 21 = .ok (.invokestatic 498, 3) := by decide +kernel
theorem dJ0_charAt_5068e_24 : decode cJ0_charAt_5068e 24 = .ok (.ireturn, 1) := by decide +kernel
theorem dJ0_coder_7d493_0 : decode cJ0_coder_7d493 0 = .ok (.getstatic 38, 3) := by decide +kernel
theorem dJ0_coder_7d493_3 : decode cJ0_coder_7d493 3 = .ok (.ifCond .eq 10, 3) := by decide +kernel
theorem dJ0_coder_7d493_6 : decode cJ0_coder_7d493 6 = .ok (.aload_n 0, 1) := by decide +kernel
theorem dJ0_coder_7d493_7 : decode cJ0_coder_7d493 7 = .ok (.getfield 15, 3) := by decide +kernel
theorem dJ0_coder_7d493_10 : decode cJ0_coder_7d493 10 = .ok (.goto 4, 3) := by decide +kernel
theorem dJ0_coder_7d493_13 : decode cJ0_coder_7d493 13 = .ok (.iconst 1, 1) := by decide +kernel
theorem dJ0_coder_7d493_14 : decode cJ0_coder_7d493 14 = .ok (.ireturn, 1) := by decide +kernel
theorem dJ0_isLatin1_aae02_0 : decode cJ0_isLatin1_aae02 0 = .ok (.getstatic 38, 3) := by decide +kernel
theorem dJ0_isLatin1_aae02_3 : decode cJ0_isLatin1_aae02 3 = .ok (.ifCond .eq 14, 3) := by decide +kernel
theorem dJ0_isLatin1_aae02_6 : decode cJ0_isLatin1_aae02 6 = .ok (.aload_n 0, 1) := by decide +kernel
theorem dJ0_isLatin1_aae02_7 : decode cJ0_isLatin1_aae02 7 = .ok (.getfield 15, 3) := by decide +kernel
theorem dJ0_isLatin1_aae02_10 : decode cJ0_isLatin1_aae02 10 = .ok (.ifCond .ne 7, 3) := by decide +kernel
theorem dJ0_isLatin1_aae02_13 : decode cJ0_isLatin1_aae02 13 = .ok (.iconst 1, 1) := by decide +kernel
theorem dJ0_isLatin1_aae02_14 : decode cJ0_isLatin1_aae02 14 = .ok (.goto 4, 3) := by decide +kernel
theorem dJ0_isLatin1_aae02_17 : decode cJ0_isLatin1_aae02 17 = .ok (.iconst 0, 1) := by decide +kernel
theorem dJ0_isLatin1_aae02_18 : decode cJ0_isLatin1_aae02 18 = .ok (.ireturn, 1) := by decide +kernel
theorem dJ0_checkIndex_df160_0 : decode cJ0_checkIndex_df160 0 = .ok (.iload_n 0, 1) := by decide +kernel
theorem dJ0_checkIndex_df160_1 : decode cJ0_checkIndex_df160 1 = .ok (.iload_n 1, 1) := by decide +kernel
theorem dJ0_checkIndex_df160_2 : decode cJ0_checkIndex_df160 2 = .ok (.getstatic 1053, 3) := by decide +kernel
theorem dJ0_checkIndex_df160_5 : decode cJ0_checkIndex_df160 5 = .ok (.invokestatic 1059, 3) := by decide +kernel
theorem dJ0_checkIndex_df160_8 : decode cJ0_checkIndex_df160 8 = .ok (.pop, 1) := by decide +kernel
theorem dJ0_checkIndex_df160_9 : decode cJ0_checkIndex_df160 9 = .ok (.return_, 1) := by decide +kernel
theorem dJ1_charAt_3b067_0 : decode cJ1_charAt_3b067 0 = .ok (.iload_n 1, 1) := by decide +kernel
theorem dJ1_charAt_3b067_1 : decode cJ1_charAt_3b067 1 = .ok (.aload_n 0, 1) := by decide +kernel
theorem dJ1_charAt_3b067_2 : decode cJ1_charAt_3b067 2 = .ok (.arraylength, 1) := by decide +kernel
theorem dJ1_charAt_3b067_3 : decode cJ1_charAt_3b067 3 = .ok (.invokestatic 9, 3) := by decide +kernel
theorem dJ1_charAt_3b067_6 : decode cJ1_charAt_3b067 6 = .ok (.aload_n 0, 1) := by decide +kernel
theorem dJ1_charAt_3b067_7 : decode cJ1_charAt_3b067 7 = .ok (.iload_n 1, 1) := by decide +kernel
theorem dJ1_charAt_3b067_8 : decode cJ1_charAt_3b067 8 = .ok (.baload, 1) := by decide +kernel
theorem dJ1_charAt_3b067_9 : decode cJ1_charAt_3b067 9 = .ok (.sipush 255, 3) := by decide +kernel
theorem dJ1_charAt_3b067_12 : decode cJ1_charAt_3b067 12 = .ok (.iand, 1) := by decide +kernel
theorem dJ1_charAt_3b067_13 : decode cJ1_charAt_3b067 13 = .ok (.i2c, 1) := by decide +kernel
theorem dJ1_charAt_3b067_14 : decode cJ1_charAt_3b067 14 = .ok (.ireturn, 1) := by decide +kernel
theorem dJ2_getChar_3b067_0 : decode cJ2_getChar_3b067 0 = .ok (.getstatic 44, 3) := by decide +kernel
theorem dJ2_getChar_3b067_3 : decode cJ2_getChar_3b067 3 = .ok (.ifCond .ne 25, 3) := by decide +kernel
theorem dJ2_getChar_3b067_6 : decode cJ2_getChar_3b067 6 = .ok (.iload_n 1, 1) := by decide +kernel
theorem dJ2_getChar_3b067_7 : decode cJ2_getChar_3b067 7 = .ok (.ifCond .lt 11, 3) := by decide +kernel
theorem dJ2_getChar_3b067_10 : decode cJ2_getChar_3b067 10 = .ok (.iload_n 1, 1) := by decide +kernel
theorem dJ2_getChar_3b067_11 : decode cJ2_getChar_3b067 11 = .ok (.aload_n 0, 1) := by decide +kernel
theorem dJ2_getChar_3b067_12 : decode cJ2_getChar_3b067 12 = .ok (.invokestatic 48, 3) := by decide +kernel
theorem dJ2_getChar_3b067_15 : decode cJ2_getChar_3b067 15 = .ok (.if_icmp .lt 13, 3) := by decide +kernel
theorem dJ2_getChar_3b067_18 : decode cJ2_getChar_3b067 18 = .ok (.new 52, 3) := by decide +kernel
theorem dJ2_getChar_3b067_21 : decode cJ2_getChar_3b067 21 = .ok (.dup, 1) := by decide +kernel
theorem dJ2_getChar_3b067_22 : decode cJ2_getChar_3b067 22 = .ok (.ldc 54, 2) := by decide +kernel
theorem dJ2_getChar_3b067_24 : decode cJ2_getChar_3b067 24 = .ok (.invokespecial 56, 3) := by decide +kernel
theorem dJ2_getChar_3b067_27 : decode cJ2_getChar_3b067 27 = .ok (.athrow, 1) := by decide +kernel
theorem dJ2_getChar_3b067_28 : decode cJ2_getChar_3b067 28 = .ok (.iload_n 1, 1) := by decide +kernel
theorem dJ2_getChar_3b067_29 : decode cJ2_getChar_3b067 29 = .ok (.iconst 1, 1) := by decide +kernel
theorem dJ2_getChar_3b067_30 : decode cJ2_getChar_3b067 30 = .ok (.ishl, 1) := by decide +kernel
theorem dJ2_getChar_3b067_31 : decode cJ2_getChar_3b067 31 = .ok (.istore_n 1, 1) := by decide +kernel
theorem dJ2_getChar_3b067_32 : decode cJ2_getChar_3b067 32 = .ok (.aload_n 0, 1) := by decide +kernel
theorem dJ2_getChar_3b067_33 : decode cJ2_getChar_3b067 33 = .ok (.iload_n 1, 1) := by decide +kernel
theorem dJ2_getChar_3b067_34 : decode cJ2_getChar_3b067 34 = .ok (.iinc 1 1, 3) := by decide +kernel
theorem dJ2_getChar_3b067_37 : decode cJ2_getChar_3b067 37 = .ok (.baload, 1) := by decide +kernel
theorem dJ2_getChar_3b067_38 : decode cJ2_getChar_3b067 38 = .ok (.sipush 255, 3) := by decide +kernel
theorem dJ2_getChar_3b067_41 : decode cJ2_getChar_3b067 41 = .ok (.iand, 1) := by decide +kernel
theorem dJ2_getChar_3b067_42 : decode cJ2_getChar_3b067 42 = .ok (.getstatic 59, 3) := by decide +kernel
theorem dJ2_getChar_3b067_45 : decode cJ2_getChar_3b067 45 = .ok (.ishl, 1) := by decide +kernel
theorem dJ2_getChar_3b067_46 : decode cJ2_getChar_3b067 46 = .ok (.aload_n 0, 1) := by decide +kernel
theorem dJ2_getChar_3b067_47 : decode cJ2_getChar_3b067 47 = .ok (.iload_n 1, 1) := by decide +kernel
theorem dJ2_getChar_3b067_48 : decode cJ2_getChar_3b067 48 = .ok (.baload, 1) := by decide +kernel
theorem dJ2_getChar_3b067_49 : decode cJ2_getChar_3b067 49 = .ok (.sipush 255, 3) := by decide +kernel
theorem dJ2_getChar_3b067_52 : decode cJ2_getChar_3b067 52 = .ok (.iand, 1) := by decide +kernel
theorem dJ2_getChar_3b067_53 : decode cJ2_getChar_3b067 53 = .ok (.getstatic 63, 3) := by decide +kernel
theorem dJ2_getChar_3b067_56 : decode cJ2_getChar_3b067 56 = .ok (.ishl, 1) := by decide +kernel
theorem dJ2_getChar_3b067_57 : decode cJ2_getChar_3b067 57 = .ok (.ior, 1) := by decide +kernel
theorem dJ2_getChar_3b067_58 : decode cJ2_getChar_3b067 58 = .ok (.i2c, 1) := by decide +kernel
theorem dJ2_getChar_3b067_59 : decode cJ2_getChar_3b067 59 = .ok (.ireturn, 1) := by decide +kernel
theorem dJ2_length_9d52b_0 : decode cJ2_length_9d52b 0 = .ok (.aload_n 0, 1) := by decide +kernel
theorem dJ2_length_9d52b_1 : decode cJ2_length_9d52b 1 = .ok (.arraylength, 1) := by decide +kernel
theorem dJ2_length_9d52b_2 : decode cJ2_length_9d52b 2 = .ok (.iconst 1, 1) := by decide +kernel
theorem dJ2_length_9d52b_3 : decode cJ2_length_9d52b 3 = .ok (.ishr, 1) := by decide +kernel
theorem dJ2_length_9d52b_4 : decode cJ2_length_9d52b 4 = .ok (.ireturn, 1) := by decide +kernel
theorem dJ2_charAt_3b067_0 : decode cJ2_charAt_3b067 0 = .ok (.iload_n 1, 1) := by decide +kernel
theorem dJ2_charAt_3b067_1 : decode cJ2_charAt_3b067 1 = .ok (.aload_n 0, 1) := by decide +kernel
theorem dJ2_charAt_3b067_2 : decode cJ2_charAt_3b067 2 = .ok (.invokestatic 67, 3) := by decide +kernel
theorem dJ2_charAt_3b067_5 : decode cJ2_charAt_3b067 5 = .ok (.aload_n 0, 1) := by decide +kernel
theorem dJ2_charAt_3b067_6 : decode cJ2_charAt_3b067 6 = .ok (.iload_n 1, 1) := by decide +kernel
theorem dJ2_charAt_3b067_7 : decode cJ2_charAt_3b067 7 = .ok (.invokestatic 71, 3) := by decide +kernel
theorem dJ2_charAt_3b067_10 : decode cJ2_charAt_3b067 10 = .ok (.ireturn, 1) := by decide +kernel
theorem dJ2_checkIndex_2214a_0 : decode cJ2_checkIndex_2214a 0 = .ok (.iload_n 0, 1) := by decide +kernel
theorem dJ2_checkIndex_2214a_1 : decode cJ2_checkIndex_2214a 1 = .ok (.aload_n 1, 1) := by decide +kernel
theorem dJ2_checkIndex_2214a_2 : decode cJ2_checkIndex_2214a 2 = .ok (.invokestatic 48, 3) := by decide +kernel
theorem dJ2_checkIndex_2214a_5 : decode cJ2_checkIndex_2214a 5 = .ok (.invokestatic 414, 3) := by decide +kernel
theorem dJ2_checkIndex_2214a_8 : decode cJ2_checkIndex_2214a 8 = .ok (.return_, 1) := by decide +kernel
theorem dJ7_fill_d0a16_0 : decode cJ7_fill_d0a16 0 = .ok (.iconst 0, 1) := by decide +kernel
theorem dJ7_fill_d0a16_1 : decode cJ7_fill_d0a16 1 = .ok (.istore_n 3, 1) := by decide +kernel
theorem dJ7_fill_d0a16_2 : decode cJ7_fill_d0a16 2 = .ok (.aload_n 0, 1) := by decide +kernel
theorem dJ7_fill_d0a16_3 : decode cJ7_fill_d0a16 3 = .ok (.arraylength, 1) := by decide +kernel
theorem dJ7_fill_d0a16_4 : decode cJ7_fill_d0a16 4 = .ok (.istore 4, 2) := by decide +kernel
theorem dJ7_fill_d0a16_6 : decode cJ7_fill_d0a16 6 = .ok (.iload_n 3, 1) := by decide +kernel
theorem dJ7_fill_d0a16_7 : decode cJ7_fill_d0a16 7 = .ok (.iload 4, 2) := by decide +kernel
theorem dJ7_fill_d0a16_9 : decode cJ7_fill_d0a16 9 = .ok (.if_icmp .ge 13, 3) := by decide +kernel
theorem dJ7_fill_d0a16_12 : decode cJ7_fill_d0a16 12 = .ok (.aload_n 0, 1) := by decide +kernel
theorem dJ7_fill_d0a16_13 : decode cJ7_fill_d0a16 13 = .ok (.iload_n 3, 1) := by decide +kernel
theorem dJ7_fill_d0a16_14 : decode cJ7_fill_d0a16 14 = .ok (.lload_n 1, 1) := by decide +kernel
theorem dJ7_fill_d0a16_15 : decode cJ7_fill_d0a16 15 = .ok (.lastore, 1) := by decide +kernel
theorem dJ7_fill_d0a16_16 : decode cJ7_fill_d0a16 16 = .ok (.iinc 3 1, 3) := by decide +kernel
theorem dJ7_fill_d0a16_19 : decode cJ7_fill_d0a16 19 = .ok (.goto (-13), 3) := by decide +kernel
theorem dJ7_fill_d0a16_22 : decode cJ7_fill_d0a16 22 = .ok (.return_, 1) := by decide +kernel
theorem dJ7_fill_53178_0 : decode cJ7_fill_53178 0 = .ok (.iconst 0, 1) := by decide +kernel
theorem dJ7_fill_53178_1 : decode cJ7_fill_53178 1 = .ok (.istore_n 2, 1) := by decide +kernel
theorem dJ7_fill_53178_2 : decode cJ7_fill_53178 2 = .ok (.aload_n 0, 1) := by decide +kernel
theorem dJ7_fill_53178_3 : decode cJ7_fill_53178 3 = .ok (.arraylength, 1) := by decide +kernel
theorem dJ7_fill_53178_4 : decode cJ7_fill_53178 4 = .ok (.istore_n 3, 1) := by decide +kernel
theorem dJ7_fill_53178_5 : decode cJ7_fill_53178 5 = .ok (.iload_n 2, 1) := by decide +kernel
theorem dJ7_fill_53178_6 : decode cJ7_fill_53178 6 = .ok (.iload_n 3, 1) := by decide +kernel
theorem dJ7_fill_53178_7 : decode cJ7_fill_53178 7 = .ok (.if_icmp .ge 13, 3) := by decide +kernel
theorem dJ7_fill_53178_10 : decode cJ7_fill_53178 10 = .ok (.aload_n 0, 1) := by decide +kernel
theorem dJ7_fill_53178_11 : decode cJ7_fill_53178 11 = .ok (.iload_n 2, 1) := by decide +kernel
theorem dJ7_fill_53178_12 : decode cJ7_fill_53178 12 = .ok (.iload_n 1, 1) := by decide +kernel
theorem dJ7_fill_53178_13 : decode cJ7_fill_53178 13 = .ok (.iastore, 1) := by decide +kernel
theorem dJ7_fill_53178_14 : decode cJ7_fill_53178 14 = .ok (.iinc 2 1, 3) := by decide +kernel
theorem dJ7_fill_53178_17 : decode cJ7_fill_53178 17 = .ok (.goto (-12), 3) := by decide +kernel
theorem dJ7_fill_53178_20 : decode cJ7_fill_53178 20 = .ok (.return_, 1) := by decide +kernel
theorem dJ3_checkIndex_8e157_0 : decode cJ3_checkIndex_8e157 0 = .ok (.iload_n 0, 1) := by decide +kernel
theorem dJ3_checkIndex_8e157_1 : decode cJ3_checkIndex_8e157 1 = .ok (.ifCond .lt 8, 3) := by decide +kernel
theorem dJ3_checkIndex_8e157_4 : decode cJ3_checkIndex_8e157 4 = .ok (.iload_n 0, 1) := by decide +kernel
theorem dJ3_checkIndex_8e157_5 : decode cJ3_checkIndex_8e157 5 = .ok (.iload_n 1, 1) := by decide +kernel
theorem dJ3_checkIndex_8e157_6 : decode cJ3_checkIndex_8e157 6 = .ok (.if_icmp .lt 10, 3) := by decide +kernel
theorem dJ3_checkIndex_8e157_9 : decode cJ3_checkIndex_8e157 9 = .ok (.aload_n 2, 1) := by decide +kernel
theorem dJ3_checkIndex_8e157_10 : decode cJ3_checkIndex_8e157 10 = .ok (.iload_n 0, 1) := by decide +kernel
theorem dJ3_checkIndex_8e157_11 : decode cJ3_checkIndex_8e157 11 = .ok (.iload_n 1, 1) := by decide +kernel
theorem dJ3_checkIndex_8e157_12 : decode cJ3_checkIndex_8e157 12 = .ok (.invokestatic 95, 3) := by decide +kernel
theorem dJ3_checkIndex_8e157_15 : decode cJ3_checkIndex_8e157 15 = .ok (.athrow, 1) := by decide +kernel
theorem dJ3_checkIndex_8e157_16 : decode cJ3_checkIndex_8e157 16 = .ok (.iload_n 0, 1) := by decide +kernel
theorem dJ3_checkIndex_8e157_17 : decode cJ3_checkIndex_8e157 17 = .ok (.ireturn, 1) := by decide +kernel
