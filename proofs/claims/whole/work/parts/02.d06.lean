theorem dX9_whyNot_38 : decode cX9_whyNot 38 = .ok (.istore_n 2, 1) := by decide +kernel
theorem dX9_whyNot_39 : decode cX9_whyNot 39 = .ok (.iload_n 2, 1) := by decide +kernel
theorem dX9_whyNot_40 : decode cX9_whyNot 40 = .ok (.aload_n 0, 1) := by decide +kernel
theorem dX9_whyNot_41 : decode cX9_whyNot 41 = .ok (.getfield 13, 3) := by decide +kernel
theorem dX9_whyNot_44 : decode cX9_whyNot 44 = .ok (.iload_n 1, 1) := by decide +kernel
theorem dX9_whyNot_45 : decode cX9_whyNot 45 = .ok (.iaload, 1) := by decide +kernel
theorem dX9_whyNot_46 : decode cX9_whyNot 46 = .ok (.if_icmp .ge 81, 3) := by decide +kernel
theorem dX9_whyNot_49 : decode cX9_whyNot 49 = .ok (.bipush 60, 2) := by decide +kernel
theorem dX9_whyNot_51 : decode cX9_whyNot 51 = .ok (.iload_n 1, 1) := by decide +kernel
theorem dX9_whyNot_52 : decode cX9_whyNot 52 = .ok (.imul, 1) := by decide +kernel
theorem dX9_whyNot_53 : decode cX9_whyNot 53 = .ok (.iload_n 2, 1) := by decide +kernel
theorem dX9_whyNot_54 : decode cX9_whyNot 54 = .ok (.iadd, 1) := by decide +kernel
theorem dX9_whyNot_55 : decode cX9_whyNot 55 = .ok (.istore_n 3, 1) := by decide +kernel
theorem dX9_whyNot_56 : decode cX9_whyNot 56 = .ok (.aload_n 0, 1) := by decide +kernel
theorem dX9_whyNot_57 : decode cX9_whyNot 57 = .ok (.getfield 16, 3) := by decide +kernel
theorem dX9_whyNot_60 : decode cX9_whyNot 60 = .ok (.iload_n 3, 1) := by decide +kernel
theorem dX9_whyNot_61 : decode cX9_whyNot 61 = .ok (.laload, 1) := by decide +kernel
theorem dX9_whyNot_62 : decode cX9_whyNot 62 = .ok (.lconst 1, 1) := by decide +kernel
theorem dX9_whyNot_63 : decode cX9_whyNot 63 = .ok (.ldc2_w 314, 3) := by decide +kernel
theorem dX9_whyNot_66 : decode cX9_whyNot 66 = .ok (.invokestatic 76, 3) := by decide +kernel
theorem dX9_whyNot_69 : decode cX9_whyNot 69 = .ok (.ifCond .eq 49, 3) := by decide +kernel
theorem dX9_whyNot_72 : decode cX9_whyNot 72 = .ok (.aload_n 0, 1) := by decide +kernel
theorem dX9_whyNot_73 : decode cX9_whyNot 73 = .ok (.getfield 16, 3) := by decide +kernel
theorem dX9_whyNot_76 : decode cX9_whyNot 76 = .ok (.iload_n 3, 1) := by decide +kernel
theorem dX9_whyNot_77 : decode cX9_whyNot 77 = .ok (.iconst 1, 1) := by decide +kernel
theorem dX9_whyNot_78 : decode cX9_whyNot 78 = .ok (.iadd, 1) := by decide +kernel
theorem dX9_whyNot_79 : decode cX9_whyNot 79 = .ok (.laload, 1) := by decide +kernel
theorem dX9_whyNot_80 : decode cX9_whyNot 80 = .ok (.lconst 1, 1) := by decide +kernel
theorem dX9_whyNot_81 : decode cX9_whyNot 81 = .ok (.lcmp, 1) := by decide +kernel
theorem dX9_whyNot_82 : decode cX9_whyNot 82 = .ok (.ifCond .eq 18, 3) := by decide +kernel
theorem dX9_whyNot_85 : decode cX9_whyNot 85 = .ok (.aload_n 0, 1) := by decide +kernel
theorem dX9_whyNot_86 : decode cX9_whyNot 86 = .ok (.getfield 16, 3) := by decide +kernel
theorem dX9_whyNot_89 : decode cX9_whyNot 89 = .ok (.iload_n 3, 1) := by decide +kernel
theorem dX9_whyNot_90 : decode cX9_whyNot 90 = .ok (.iconst 1, 1) := by decide +kernel
theorem dX9_whyNot_91 : decode cX9_whyNot 91 = .ok (.iadd, 1) := by decide +kernel
theorem dX9_whyNot_92 : decode cX9_whyNot 92 = .ok (.laload, 1) := by decide +kernel
theorem dX9_whyNot_93 : decode cX9_whyNot 93 = .ok (.ldc2_w 115, 3) := by decide +kernel
theorem dX9_whyNot_96 : decode cX9_whyNot 96 = .ok (.lcmp, 1) := by decide +kernel
theorem dX9_whyNot_97 : decode cX9_whyNot 97 = .ok (.ifCond .ne 21, 3) := by decide +kernel
theorem dX9_whyNot_100 : decode cX9_whyNot 100 = .ok (.aload_n 0, 1) := by decide +kernel
theorem dX9_whyNot_101 : decode cX9_whyNot 101 = .ok (.getfield 16, 3) := by decide +kernel
theorem dX9_whyNot_104 : decode cX9_whyNot 104 = .ok (.iload_n 3, 1) := by decide +kernel
theorem dX9_whyNot_105 : decode cX9_whyNot 105 = .ok (.iconst 2, 1) := by decide +kernel
theorem dX9_whyNot_106 : decode cX9_whyNot 106 = .ok (.iadd, 1) := by decide +kernel
theorem dX9_whyNot_107 : decode cX9_whyNot 107 = .ok (.laload, 1) := by decide +kernel
theorem dX9_whyNot_108 : decode cX9_whyNot 108 = .ok (.lconst 0, 1) := by decide +kernel
theorem dX9_whyNot_109 : decode cX9_whyNot 109 = .ok (.ldc2_w 321, 3) := by decide +kernel
theorem dX9_whyNot_112 : decode cX9_whyNot 112 = .ok (.invokestatic 76, 3) := by decide +kernel
theorem dX9_whyNot_115 : decode cX9_whyNot 115 = .ok (.ifCond .ne 6, 3) := by decide +kernel
theorem dX9_whyNot_118 : decode cX9_whyNot 118 = .ok (.bipush (-2), 2) := by decide +kernel
theorem dX9_whyNot_120 : decode cX9_whyNot 120 = .ok (.ireturn, 1) := by decide +kernel
theorem dX9_whyNot_121 : decode cX9_whyNot 121 = .ok (.iinc 2 3, 3) := by decide +kernel
theorem dX9_whyNot_124 : decode cX9_whyNot 124 = .ok (.goto (-85), 3) := by decide +kernel
theorem dX9_whyNot_127 : decode cX9_whyNot 127 = .ok (.iconst 0, 1) := by decide +kernel
theorem dX9_whyNot_128 : decode cX9_whyNot 128 = .ok (.ireturn, 1) := by decide +kernel
theorem dX9_rows_0 : decode cX9_rows 0 = .ok (.aload_n 0, 1) := by decide +kernel
theorem dX9_rows_1 : decode cX9_rows 1 = .ok (.getfield 13, 3) := by decide +kernel
theorem dX9_rows_4 : decode cX9_rows 4 = .ok (.iload_n 1, 1) := by decide +kernel
theorem dX9_rows_5 : decode cX9_rows 5 = .ok (.iaload, 1) := by decide +kernel
theorem dX9_rows_6 : decode cX9_rows 6 = .ok (.iconst 3, 1) := by decide +kernel
theorem dX9_rows_7 : decode cX9_rows 7 = .ok (.idiv, 1) := by decide +kernel
theorem dX9_rows_8 : decode cX9_rows 8 = .ok (.ireturn, 1) := by decide +kernel
theorem dX9_cellOf_0 : decode cX9_cellOf 0 = .ok (.aload_n 0, 1) := by decide +kernel
theorem dX9_cellOf_1 : decode cX9_cellOf 1 = .ok (.getfield 16, 3) := by decide +kernel
theorem dX9_cellOf_4 : decode cX9_cellOf 4 = .ok (.bipush 60, 2) := by decide +kernel
theorem dX9_cellOf_6 : decode cX9_cellOf 6 = .ok (.iload_n 1, 1) := by decide +kernel
theorem dX9_cellOf_7 : decode cX9_cellOf 7 = .ok (.imul, 1) := by decide +kernel
theorem dX9_cellOf_8 : decode cX9_cellOf 8 = .ok (.iconst 3, 1) := by decide +kernel
theorem dX9_cellOf_9 : decode cX9_cellOf 9 = .ok (.iload_n 2, 1) := by decide +kernel
theorem dX9_cellOf_10 : decode cX9_cellOf 10 = .ok (.imul, 1) := by decide +kernel
theorem dX9_cellOf_11 : decode cX9_cellOf 11 = .ok (.iadd, 1) := by decide +kernel
theorem dX9_cellOf_12 : decode cX9_cellOf 12 = .ok (.iload_n 3, 1) := by decide +kernel
theorem dX9_cellOf_13 : decode cX9_cellOf 13 = .ok (.iadd, 1) := by decide +kernel
theorem dX9_cellOf_14 : decode cX9_cellOf 14 = .ok (.laload, 1) := by decide +kernel
theorem dX9_cellOf_15 : decode cX9_cellOf 15 = .ok (.lreturn, 1) := by decide +kernel
theorem dX9_isFit_0 : decode cX9_isFit 0 = .ok (.aload_n 0, 1) := by decide +kernel
theorem dX9_isFit_1 : decode cX9_isFit 1 = .ok (.iload_n 1, 1) := by decide +kernel
theorem dX9_isFit_2 : decode cX9_isFit 2 = .ok (.iload_n 2, 1) := by decide +kernel
theorem dX9_isFit_3 : decode cX9_isFit 3 = .ok (.iconst 0, 1) := by decide +kernel
theorem dX9_isFit_4 : decode cX9_isFit 4 = .ok (.invokevirtual 323, 3) := by decide +kernel
theorem dX9_isFit_7 : decode cX9_isFit 7 = .ok (.lstore 7, 2) := by decide +kernel
theorem dX9_isFit_9 : decode cX9_isFit 9 = .ok (.lload 7, 2) := by decide +kernel
theorem dX9_isFit_11 : decode cX9_isFit 11 = .ok (.lload 5, 2) := by decide +kernel
theorem dX9_isFit_13 : decode cX9_isFit 13 = .ok (.iload 4, 2) := by decide +kernel
theorem dX9_isFit_15 : decode cX9_isFit 15 = .ok (.i2l, 1) := by decide +kernel
theorem dX9_isFit_16 : decode cX9_isFit 16 = .ok (.lmul, 1) := by decide +kernel
theorem dX9_isFit_17 : decode cX9_isFit 17 = .ok (.ladd, 1) := by decide +kernel
theorem dX9_isFit_18 : decode cX9_isFit 18 = .ok (.lstore 9, 2) := by decide +kernel
theorem dX9_isFit_20 : decode cX9_isFit 20 = .ok (.lload 9, 2) := by decide +kernel
theorem dX9_isFit_22 : decode cX9_isFit 22 = .ok (.lconst 0, 1) := by decide +kernel
theorem dX9_isFit_23 : decode cX9_isFit 23 = .ok (.lcmp, 1) := by decide +kernel
theorem dX9_isFit_24 : decode cX9_isFit 24 = .ok (.ifCond .le 26, 3) := by decide +kernel
theorem dX9_isFit_27 : decode cX9_isFit 27 = .ok (.lload 7, 2) := by decide +kernel
theorem dX9_isFit_29 : decode cX9_isFit 29 = .ok (.iload_n 3, 1) := by decide +kernel
theorem dX9_isFit_30 : decode cX9_isFit 30 = .ok (.i2l, 1) := by decide +kernel
theorem dX9_isFit_31 : decode cX9_isFit 31 = .ok (.lmul, 1) := by decide +kernel
theorem dX9_isFit_32 : decode cX9_isFit 32 = .ok (.lload 9, 2) := by decide +kernel
theorem dX9_isFit_34 : decode cX9_isFit 34 = .ok (.ldiv, 1) := by decide +kernel
theorem dX9_isFit_35 : decode cX9_isFit 35 = .ok (.aload_n 0, 1) := by decide +kernel
theorem dX9_isFit_36 : decode cX9_isFit 36 = .ok (.iload_n 1, 1) := by decide +kernel
theorem dX9_isFit_37 : decode cX9_isFit 37 = .ok (.iload_n 2, 1) := by decide +kernel
theorem dX9_isFit_38 : decode cX9_isFit 38 = .ok (.iconst 2, 1) := by decide +kernel
theorem dX9_isFit_39 : decode cX9_isFit 39 = .ok (.invokevirtual 323, 3) := by decide +kernel
theorem dX9_isFit_42 : decode cX9_isFit 42 = .ok (.lcmp, 1) := by decide +kernel
theorem dX9_isFit_43 : decode cX9_isFit 43 = .ok (.ifCond .ne 7, 3) := by decide +kernel
theorem dX9_isFit_46 : decode cX9_isFit 46 = .ok (.iconst 1, 1) := by decide +kernel
theorem dX9_isFit_47 : decode cX9_isFit 47 = .ok (.goto 4, 3) := by decide +kernel
theorem dX9_isFit_50 : decode cX9_isFit 50 = .ok (.iconst 0, 1) := by decide +kernel
theorem dX9_isFit_51 : decode cX9_isFit 51 = .ok (.ireturn, 1) := by decide +kernel
theorem dX9_areFit_0 : decode cX9_areFit 0 = .ok (.iconst 0, 1) := by decide +kernel
theorem dX9_areFit_1 : decode cX9_areFit 1 = .ok (.istore 4, 2) := by decide +kernel
theorem dX9_areFit_3 : decode cX9_areFit 3 = .ok (.iload 4, 2) := by decide +kernel
theorem dX9_areFit_5 : decode cX9_areFit 5 = .ok (.aload_n 0, 1) := by decide +kernel
theorem dX9_areFit_6 : decode cX9_areFit 6 = .ok (.iload_n 1, 1) := by decide +kernel
theorem dX9_areFit_7 : decode cX9_areFit 7 = .ok (.invokevirtual 327, 3) := by decide +kernel
theorem dX9_areFit_10 : decode cX9_areFit 10 = .ok (.if_icmp .ge 31, 3) := by decide +kernel
theorem dX9_areFit_13 : decode cX9_areFit 13 = .ok (.aload_n 0, 1) := by decide +kernel
theorem dX9_areFit_14 : decode cX9_areFit 14 = .ok (.iload_n 1, 1) := by decide +kernel
theorem dX9_areFit_15 : decode cX9_areFit 15 = .ok (.iload 4, 2) := by decide +kernel
theorem dX9_areFit_17 : decode cX9_areFit 17 = .ok (.iload_n 2, 1) := by decide +kernel
theorem dX9_areFit_18 : decode cX9_areFit 18 = .ok (.iload_n 3, 1) := by decide +kernel
theorem dX9_areFit_19 : decode cX9_areFit 19 = .ok (.aload_n 0, 1) := by decide +kernel
theorem dX9_areFit_20 : decode cX9_areFit 20 = .ok (.iload_n 1, 1) := by decide +kernel
theorem dX9_areFit_21 : decode cX9_areFit 21 = .ok (.iload 4, 2) := by decide +kernel
theorem dX9_areFit_23 : decode cX9_areFit 23 = .ok (.iconst 1, 1) := by decide +kernel
theorem dX9_areFit_24 : decode cX9_areFit 24 = .ok (.invokevirtual 323, 3) := by decide +kernel
theorem dX9_areFit_27 : decode cX9_areFit 27 = .ok (.invokevirtual 330, 3) := by decide +kernel
theorem dX9_areFit_30 : decode cX9_areFit 30 = .ok (.ifCond .ne 5, 3) := by decide +kernel
theorem dX9_areFit_33 : decode cX9_areFit 33 = .ok (.iconst 0, 1) := by decide +kernel
theorem dX9_areFit_34 : decode cX9_areFit 34 = .ok (.ireturn, 1) := by decide +kernel
theorem dX9_areFit_35 : decode cX9_areFit 35 = .ok (.iinc 4 1, 3) := by decide +kernel
theorem dX9_areFit_38 : decode cX9_areFit 38 = .ok (.goto (-35), 3) := by decide +kernel
theorem dX9_areFit_41 : decode cX9_areFit 41 = .ok (.iconst 1, 1) := by decide +kernel
theorem dX9_areFit_42 : decode cX9_areFit 42 = .ok (.ireturn, 1) := by decide +kernel
theorem dX9_fits_0 : decode cX9_fits 0 = .ok (.aload_n 0, 1) := by decide +kernel
theorem dX9_fits_1 : decode cX9_fits 1 = .ok (.iconst 0, 1) := by decide +kernel
theorem dX9_fits_2 : decode cX9_fits 2 = .ok (.putfield 71, 3) := by decide +kernel
theorem dX9_fits_5 : decode cX9_fits 5 = .ok (.aload_n 0, 1) := by decide +kernel
theorem dX9_fits_6 : decode cX9_fits 6 = .ok (.iload_n 1, 1) := by decide +kernel
theorem dX9_fits_7 : decode cX9_fits 7 = .ok (.invokevirtual 334, 3) := by decide +kernel
theorem dX9_fits_10 : decode cX9_fits 10 = .ok (.istore_n 2, 1) := by decide +kernel
theorem dX9_fits_11 : decode cX9_fits 11 = .ok (.iload_n 2, 1) := by decide +kernel
theorem dX9_fits_12 : decode cX9_fits 12 = .ok (.ifCond .eq 5, 3) := by decide +kernel
theorem dX9_fits_15 : decode cX9_fits 15 = .ok (.iload_n 2, 1) := by decide +kernel
theorem dX9_fits_16 : decode cX9_fits 16 = .ok (.ireturn, 1) := by decide +kernel
theorem dX9_fits_17 : decode cX9_fits 17 = .ok (.iconst 0, 1) := by decide +kernel
theorem dX9_fits_18 : decode cX9_fits 18 = .ok (.istore_n 3, 1) := by decide +kernel
theorem dX9_fits_19 : decode cX9_fits 19 = .ok (.iconst 1, 1) := by decide +kernel
theorem dX9_fits_20 : decode cX9_fits 20 = .ok (.istore 4, 2) := by decide +kernel
theorem dX9_fits_22 : decode cX9_fits 22 = .ok (.iload 4, 2) := by decide +kernel
theorem dX9_fits_24 : decode cX9_fits 24 = .ok (.sipush 200, 3) := by decide +kernel
theorem dX9_fits_27 : decode cX9_fits 27 = .ok (.if_icmp .gt 45, 3) := by decide +kernel
theorem dX9_fits_30 : decode cX9_fits 30 = .ok (.iconst 0, 1) := by decide +kernel
theorem dX9_fits_31 : decode cX9_fits 31 = .ok (.istore 5, 2) := by decide +kernel
theorem dX9_fits_33 : decode cX9_fits 33 = .ok (.iload 5, 2) := by decide +kernel
theorem dX9_fits_35 : decode cX9_fits 35 = .ok (.bipush 30, 2) := by decide +kernel
theorem dX9_fits_37 : decode cX9_fits 37 = .ok (.if_icmp .gt 29, 3) := by decide +kernel
theorem dX9_fits_40 : decode cX9_fits 40 = .ok (.iload_n 3, 1) := by decide +kernel
theorem dX9_fits_41 : decode cX9_fits 41 = .ok (.aload_n 0, 1) := by decide +kernel
theorem dX9_fits_42 : decode cX9_fits 42 = .ok (.iload_n 1, 1) := by decide +kernel
theorem dX9_fits_43 : decode cX9_fits 43 = .ok (.iload 4, 2) := by decide +kernel
theorem dX9_fits_45 : decode cX9_fits 45 = .ok (.iload 5, 2) := by decide +kernel
theorem dX9_fits_47 : decode cX9_fits 47 = .ok (.invokevirtual 337, 3) := by decide +kernel
theorem dX9_fits_50 : decode cX9_fits 50 = .ok (.ifCond .eq 7, 3) := by decide +kernel
theorem dX9_fits_53 : decode cX9_fits 53 = .ok (.iconst 1, 1) := by decide +kernel
theorem dX9_fits_54 : decode cX9_fits 54 = .ok (.goto 4, 3) := by decide +kernel
theorem dX9_fits_57 : decode cX9_fits 57 = .ok (.iconst 0, 1) := by decide +kernel
theorem dX9_fits_58 : decode cX9_fits 58 = .ok (.iadd, 1) := by decide +kernel
theorem dX9_fits_59 : decode cX9_fits 59 = .ok (.istore_n 3, 1) := by decide +kernel
theorem dX9_fits_60 : decode cX9_fits 60 = .ok (.iinc 5 1, 3) := by decide +kernel
theorem dX9_fits_63 : decode cX9_fits 63 = .ok (.goto (-30), 3) := by decide +kernel
theorem dX9_fits_66 : decode cX9_fits 66 = .ok (.iinc 4 1, 3) := by decide +kernel
theorem dX9_fits_69 : decode cX9_fits 69 = .ok (.goto (-47), 3) := by decide +kernel
theorem dX9_fits_72 : decode cX9_fits 72 = .ok (.iload_n 3, 1) := by decide +kernel
theorem dX9_fits_73 : decode cX9_fits 73 = .ok (.ireturn, 1) := by decide +kernel
theorem dX9_fit_0 : decode cX9_fit 0 = .ok (.aload_n 0, 1) := by decide +kernel
theorem dX9_fit_1 : decode cX9_fit 1 = .ok (.iconst 0, 1) := by decide +kernel
theorem dX9_fit_2 : decode cX9_fit 2 = .ok (.putfield 71, 3) := by decide +kernel
theorem dX9_fit_5 : decode cX9_fit 5 = .ok (.iload_n 2, 1) := by decide +kernel
theorem dX9_fit_6 : decode cX9_fit 6 = .ok (.invokestatic 260, 3) := by decide +kernel
theorem dX9_fit_9 : decode cX9_fit 9 = .ok (.ifCond .eq 11, 3) := by decide +kernel
theorem dX9_fit_12 : decode cX9_fit 12 = .ok (.aload_n 0, 1) := by decide +kernel
theorem dX9_fit_13 : decode cX9_fit 13 = .ok (.iload_n 1, 1) := by decide +kernel
theorem dX9_fit_14 : decode cX9_fit 14 = .ok (.invokevirtual 334, 3) := by decide +kernel
theorem dX9_fit_17 : decode cX9_fit 17 = .ok (.goto 5, 3) := by decide +kernel
theorem dX9_fit_20 : decode cX9_fit 20 = .ok (.bipush (-2), 2) := by decide +kernel
theorem dX9_fit_22 : decode cX9_fit 22 = .ok (.istore_n 3, 1) := by decide +kernel
theorem dX9_fit_23 : decode cX9_fit 23 = .ok (.iload_n 3, 1) := by decide +kernel
theorem dX9_fit_24 : decode cX9_fit 24 = .ok (.ifCond .eq 5, 3) := by decide +kernel
theorem dX9_fit_27 : decode cX9_fit 27 = .ok (.iload_n 3, 1) := by decide +kernel
theorem dX9_fit_28 : decode cX9_fit 28 = .ok (.ireturn, 1) := by decide +kernel
theorem dX9_fit_29 : decode cX9_fit 29 = .ok (.iconst 1, 1) := by decide +kernel
theorem dX9_fit_30 : decode cX9_fit 30 = .ok (.istore 4, 2) := by decide +kernel
theorem dX9_fit_32 : decode cX9_fit 32 = .ok (.iload 4, 2) := by decide +kernel
theorem dX9_fit_34 : decode cX9_fit 34 = .ok (.sipush 200, 3) := by decide +kernel
theorem dX9_fit_37 : decode cX9_fit 37 = .ok (.if_icmp .gt 49, 3) := by decide +kernel
theorem dX9_fit_40 : decode cX9_fit 40 = .ok (.iconst 0, 1) := by decide +kernel
theorem dX9_fit_41 : decode cX9_fit 41 = .ok (.istore 5, 2) := by decide +kernel
theorem dX9_fit_43 : decode cX9_fit 43 = .ok (.iload 5, 2) := by decide +kernel
theorem dX9_fit_45 : decode cX9_fit 45 = .ok (.bipush 30, 2) := by decide +kernel
theorem dX9_fit_47 : decode cX9_fit 47 = .ok (.if_icmp .gt 33, 3) := by decide +kernel
theorem dX9_fit_50 : decode cX9_fit 50 = .ok (.aload_n 0, 1) := by decide +kernel
theorem dX9_fit_51 : decode cX9_fit 51 = .ok (.iload_n 1, 1) := by decide +kernel
theorem dX9_fit_52 : decode cX9_fit 52 = .ok (.iload 4, 2) := by decide +kernel
theorem dX9_fit_54 : decode cX9_fit 54 = .ok (.iload 5, 2) := by decide +kernel
theorem dX9_fit_56 : decode cX9_fit 56 = .ok (.invokevirtual 337, 3) := by decide +kernel
theorem dX9_fit_59 : decode cX9_fit 59 = .ok (.ifCond .eq 15, 3) := by decide +kernel
theorem dX9_fit_62 : decode cX9_fit 62 = .ok (.iload_n 2, 1) := by decide +kernel
theorem dX9_fit_63 : decode cX9_fit 63 = .ok (.ifCond .ne 8, 3) := by decide +kernel
theorem dX9_fit_66 : decode cX9_fit 66 = .ok (.iload 4, 2) := by decide +kernel
theorem dX9_fit_68 : decode cX9_fit 68 = .ok (.goto 5, 3) := by decide +kernel
theorem dX9_fit_71 : decode cX9_fit 71 = .ok (.iload 5, 2) := by decide +kernel
theorem dX9_fit_73 : decode cX9_fit 73 = .ok (.ireturn, 1) := by decide +kernel
theorem dX9_fit_74 : decode cX9_fit 74 = .ok (.iinc 5 1, 3) := by decide +kernel
theorem dX9_fit_77 : decode cX9_fit 77 = .ok (.goto (-34), 3) := by decide +kernel
theorem dX9_fit_80 : decode cX9_fit 80 = .ok (.iinc 4 1, 3) := by decide +kernel
theorem dX9_fit_83 : decode cX9_fit 83 = .ok (.goto (-51), 3) := by decide +kernel
theorem dX9_fit_86 : decode cX9_fit 86 = .ok (.iconst (-1), 1) := by decide +kernel
theorem dX9_fit_87 : decode cX9_fit 87 = .ok (.ireturn, 1) := by decide +kernel
theorem dX9_unlike_0 : decode cX9_unlike 0 = .ok (.aload_n 0, 1) := by decide +kernel
theorem dX9_unlike_1 : decode cX9_unlike 1 = .ok (.iconst 0, 1) := by decide +kernel
theorem dX9_unlike_2 : decode cX9_unlike 2 = .ok (.putfield 71, 3) := by decide +kernel
theorem dX9_unlike_5 : decode cX9_unlike 5 = .ok (.iload_n 2, 1) := by decide +kernel
theorem dX9_unlike_6 : decode cX9_unlike 6 = .ok (.invokestatic 260, 3) := by decide +kernel
theorem dX9_unlike_9 : decode cX9_unlike 9 = .ok (.ifCond .eq 11, 3) := by decide +kernel
theorem dX9_unlike_12 : decode cX9_unlike 12 = .ok (.aload_n 0, 1) := by decide +kernel
theorem dX9_unlike_13 : decode cX9_unlike 13 = .ok (.iload_n 1, 1) := by decide +kernel
theorem dX9_unlike_14 : decode cX9_unlike 14 = .ok (.invokevirtual 334, 3) := by decide +kernel
theorem dX9_unlike_17 : decode cX9_unlike 17 = .ok (.goto 5, 3) := by decide +kernel
theorem dX9_unlike_20 : decode cX9_unlike 20 = .ok (.bipush (-2), 2) := by decide +kernel
theorem dX9_unlike_22 : decode cX9_unlike 22 = .ok (.istore_n 3, 1) := by decide +kernel
theorem dX9_unlike_23 : decode cX9_unlike 23 = .ok (.iload_n 3, 1) := by decide +kernel
theorem dX9_unlike_24 : decode cX9_unlike 24 = .ok (.ifCond .eq 5, 3) := by decide +kernel
theorem dX9_unlike_27 : decode cX9_unlike 27 = .ok (.iload_n 3, 1) := by decide +kernel
theorem dX9_unlike_28 : decode cX9_unlike 28 = .ok (.ireturn, 1) := by decide +kernel
theorem dX9_unlike_29 : decode cX9_unlike 29 = .ok (.iconst 0, 1) := by decide +kernel
theorem dX9_unlike_30 : decode cX9_unlike 30 = .ok (.istore 4, 2) := by decide +kernel
theorem dX9_unlike_32 : decode cX9_unlike 32 = .ok (.iload_n 2, 1) := by decide +kernel
theorem dX9_unlike_33 : decode cX9_unlike 33 = .ok (.ifCond .ne 7, 3) := by decide +kernel
theorem dX9_unlike_36 : decode cX9_unlike 36 = .ok (.iconst 1, 1) := by decide +kernel
theorem dX9_unlike_37 : decode cX9_unlike 37 = .ok (.goto 4, 3) := by decide +kernel
theorem dX9_unlike_40 : decode cX9_unlike 40 = .ok (.iconst 0, 1) := by decide +kernel
theorem dX9_unlike_41 : decode cX9_unlike 41 = .ok (.istore 5, 2) := by decide +kernel
theorem dX9_unlike_43 : decode cX9_unlike 43 = .ok (.iload 5, 2) := by decide +kernel
theorem dX9_unlike_45 : decode cX9_unlike 45 = .ok (.iload_n 2, 1) := by decide +kernel
theorem dX9_unlike_46 : decode cX9_unlike 46 = .ok (.ifCond .ne 9, 3) := by decide +kernel
theorem dX9_unlike_49 : decode cX9_unlike 49 = .ok (.sipush 200, 3) := by decide +kernel
theorem dX9_unlike_52 : decode cX9_unlike 52 = .ok (.goto 5, 3) := by decide +kernel
theorem dX9_unlike_55 : decode cX9_unlike 55 = .ok (.bipush 30, 2) := by decide +kernel
theorem dX9_unlike_57 : decode cX9_unlike 57 = .ok (.if_icmp .gt 93, 3) := by decide +kernel
theorem dX9_unlike_60 : decode cX9_unlike 60 = .ok (.iconst 0, 1) := by decide +kernel
theorem dX9_unlike_61 : decode cX9_unlike 61 = .ok (.istore 6, 2) := by decide +kernel
theorem dX9_unlike_63 : decode cX9_unlike 63 = .ok (.iload_n 2, 1) := by decide +kernel
theorem dX9_unlike_64 : decode cX9_unlike 64 = .ok (.ifCond .ne 7, 3) := by decide +kernel
theorem dX9_unlike_67 : decode cX9_unlike 67 = .ok (.iconst 0, 1) := by decide +kernel
theorem dX9_unlike_68 : decode cX9_unlike 68 = .ok (.goto 4, 3) := by decide +kernel
theorem dX9_unlike_71 : decode cX9_unlike 71 = .ok (.iconst 1, 1) := by decide +kernel
theorem dX9_unlike_72 : decode cX9_unlike 72 = .ok (.istore 7, 2) := by decide +kernel
theorem dX9_unlike_74 : decode cX9_unlike 74 = .ok (.iload 7, 2) := by decide +kernel
theorem dX9_unlike_76 : decode cX9_unlike 76 = .ok (.iload_n 2, 1) := by decide +kernel
theorem dX9_unlike_77 : decode cX9_unlike 77 = .ok (.ifCond .ne 8, 3) := by decide +kernel
theorem dX9_unlike_80 : decode cX9_unlike 80 = .ok (.bipush 30, 2) := by decide +kernel
theorem dX9_unlike_82 : decode cX9_unlike 82 = .ok (.goto 6, 3) := by decide +kernel
theorem dX9_unlike_85 : decode cX9_unlike 85 = .ok (.sipush 200, 3) := by decide +kernel
theorem dX9_unlike_88 : decode cX9_unlike 88 = .ok (.if_icmp .gt 41, 3) := by decide +kernel
theorem dX9_unlike_91 : decode cX9_unlike 91 = .ok (.iload 6, 2) := by decide +kernel
theorem dX9_unlike_93 : decode cX9_unlike 93 = .ok (.ifCond .ne 36, 3) := by decide +kernel
theorem dX9_unlike_96 : decode cX9_unlike 96 = .ok (.iload_n 2, 1) := by decide +kernel
theorem dX9_unlike_97 : decode cX9_unlike 97 = .ok (.ifCond .ne 15, 3) := by decide +kernel
theorem dX9_unlike_100 : decode cX9_unlike 100 = .ok (.aload_n 0, 1) := by decide +kernel
theorem dX9_unlike_101 : decode cX9_unlike 101 = .ok (.iload_n 1, 1) := by decide +kernel
theorem dX9_unlike_102 : decode cX9_unlike 102 = .ok (.iload 5, 2) := by decide +kernel
theorem dX9_unlike_104 : decode cX9_unlike 104 = .ok (.iload 7, 2) := by decide +kernel
theorem dX9_unlike_106 : decode cX9_unlike 106 = .ok (.invokevirtual 337, 3) := by decide +kernel
theorem dX9_unlike_109 : decode cX9_unlike 109 = .ok (.goto 12, 3) := by decide +kernel
theorem dX9_unlike_112 : decode cX9_unlike 112 = .ok (.aload_n 0, 1) := by decide +kernel
theorem dX9_unlike_113 : decode cX9_unlike 113 = .ok (.iload_n 1, 1) := by decide +kernel
theorem dX9_unlike_114 : decode cX9_unlike 114 = .ok (.iload 7, 2) := by decide +kernel
theorem dX9_unlike_116 : decode cX9_unlike 116 = .ok (.iload 5, 2) := by decide +kernel
theorem dX9_unlike_118 : decode cX9_unlike 118 = .ok (.invokevirtual 337, 3) := by decide +kernel
theorem dX9_unlike_121 : decode cX9_unlike 121 = .ok (.istore 6, 2) := by decide +kernel
theorem dX9_unlike_123 : decode cX9_unlike 123 = .ok (.iinc 7 1, 3) := by decide +kernel
theorem dX9_unlike_126 : decode cX9_unlike 126 = .ok (.goto (-52), 3) := by decide +kernel
theorem dX9_unlike_129 : decode cX9_unlike 129 = .ok (.iload 4, 2) := by decide +kernel
theorem dX9_unlike_131 : decode cX9_unlike 131 = .ok (.iload 6, 2) := by decide +kernel
theorem dX9_unlike_133 : decode cX9_unlike 133 = .ok (.ifCond .eq 7, 3) := by decide +kernel
theorem dX9_unlike_136 : decode cX9_unlike 136 = .ok (.iconst 1, 1) := by decide +kernel
theorem dX9_unlike_137 : decode cX9_unlike 137 = .ok (.goto 4, 3) := by decide +kernel
theorem dX9_unlike_140 : decode cX9_unlike 140 = .ok (.iconst 0, 1) := by decide +kernel
theorem dX9_unlike_141 : decode cX9_unlike 141 = .ok (.iadd, 1) := by decide +kernel
theorem dX9_unlike_142 : decode cX9_unlike 142 = .ok (.istore 4, 2) := by decide +kernel
theorem dX9_unlike_144 : decode cX9_unlike 144 = .ok (.iinc 5 1, 3) := by decide +kernel
theorem dX9_unlike_147 : decode cX9_unlike 147 = .ok (.goto (-104), 3) := by decide +kernel
theorem dX9_unlike_150 : decode cX9_unlike 150 = .ok (.iload 4, 2) := by decide +kernel
theorem dX9_unlike_152 : decode cX9_unlike 152 = .ok (.ireturn, 1) := by decide +kernel
theorem dX9_wrongBy_0 : decode cX9_wrongBy 0 = .ok (.iconst 0, 1) := by decide +kernel
theorem dX9_wrongBy_1 : decode cX9_wrongBy 1 = .ok (.istore 4, 2) := by decide +kernel
theorem dX9_wrongBy_3 : decode cX9_wrongBy 3 = .ok (.iconst 0, 1) := by decide +kernel
theorem dX9_wrongBy_4 : decode cX9_wrongBy 4 = .ok (.istore 5, 2) := by decide +kernel
theorem dX9_wrongBy_6 : decode cX9_wrongBy 6 = .ok (.iload 5, 2) := by decide +kernel
theorem dX9_wrongBy_8 : decode cX9_wrongBy 8 = .ok (.aload_n 0, 1) := by decide +kernel
theorem dX9_wrongBy_9 : decode cX9_wrongBy 9 = .ok (.iload_n 1, 1) := by decide +kernel
theorem dX9_wrongBy_10 : decode cX9_wrongBy 10 = .ok (.invokevirtual 327, 3) := by decide +kernel
theorem dX9_wrongBy_13 : decode cX9_wrongBy 13 = .ok (.if_icmp .ge 39, 3) := by decide +kernel
theorem dX9_wrongBy_16 : decode cX9_wrongBy 16 = .ok (.iload 4, 2) := by decide +kernel
theorem dX9_wrongBy_18 : decode cX9_wrongBy 18 = .ok (.aload_n 0, 1) := by decide +kernel
theorem dX9_wrongBy_19 : decode cX9_wrongBy 19 = .ok (.iload_n 1, 1) := by decide +kernel
theorem dX9_wrongBy_20 : decode cX9_wrongBy 20 = .ok (.iload 5, 2) := by decide +kernel
theorem dX9_wrongBy_22 : decode cX9_wrongBy 22 = .ok (.iload_n 2, 1) := by decide +kernel
theorem dX9_wrongBy_23 : decode cX9_wrongBy 23 = .ok (.iload_n 3, 1) := by decide +kernel
theorem dX9_wrongBy_24 : decode cX9_wrongBy 24 = .ok (.aload_n 0, 1) := by decide +kernel
theorem dX9_wrongBy_25 : decode cX9_wrongBy 25 = .ok (.iload_n 1, 1) := by decide +kernel
theorem dX9_wrongBy_26 : decode cX9_wrongBy 26 = .ok (.iload 5, 2) := by decide +kernel
theorem dX9_wrongBy_28 : decode cX9_wrongBy 28 = .ok (.iconst 1, 1) := by decide +kernel
theorem dX9_wrongBy_29 : decode cX9_wrongBy 29 = .ok (.invokevirtual 323, 3) := by decide +kernel
theorem dX9_wrongBy_32 : decode cX9_wrongBy 32 = .ok (.invokevirtual 330, 3) := by decide +kernel
theorem dX9_wrongBy_35 : decode cX9_wrongBy 35 = .ok (.ifCond .eq 7, 3) := by decide +kernel
theorem dX9_wrongBy_38 : decode cX9_wrongBy 38 = .ok (.iconst 0, 1) := by decide +kernel
theorem dX9_wrongBy_39 : decode cX9_wrongBy 39 = .ok (.goto 4, 3) := by decide +kernel
theorem dX9_wrongBy_42 : decode cX9_wrongBy 42 = .ok (.iconst 1, 1) := by decide +kernel
theorem dX9_wrongBy_43 : decode cX9_wrongBy 43 = .ok (.iadd, 1) := by decide +kernel
theorem dX9_wrongBy_44 : decode cX9_wrongBy 44 = .ok (.istore 4, 2) := by decide +kernel
theorem dX9_wrongBy_46 : decode cX9_wrongBy 46 = .ok (.iinc 5 1, 3) := by decide +kernel
theorem dX9_wrongBy_49 : decode cX9_wrongBy 49 = .ok (.goto (-43), 3) := by decide +kernel
theorem dX9_wrongBy_52 : decode cX9_wrongBy 52 = .ok (.iload 4, 2) := by decide +kernel
theorem dX9_wrongBy_54 : decode cX9_wrongBy 54 = .ok (.ireturn, 1) := by decide +kernel
theorem dX9_wrongOf_0 : decode cX9_wrongOf 0 = .ok (.ldc_w 340, 3) := by decide +kernel
theorem dX9_wrongOf_3 : decode cX9_wrongOf 3 = .ok (.istore_n 2, 1) := by decide +kernel
theorem dX9_wrongOf_4 : decode cX9_wrongOf 4 = .ok (.iconst 1, 1) := by decide +kernel
theorem dX9_wrongOf_5 : decode cX9_wrongOf 5 = .ok (.istore_n 3, 1) := by decide +kernel
theorem dX9_wrongOf_6 : decode cX9_wrongOf 6 = .ok (.iload_n 3, 1) := by decide +kernel
theorem dX9_wrongOf_7 : decode cX9_wrongOf 7 = .ok (.sipush 200, 3) := by decide +kernel
theorem dX9_wrongOf_10 : decode cX9_wrongOf 10 = .ok (.if_icmp .gt 50, 3) := by decide +kernel
theorem dX9_wrongOf_13 : decode cX9_wrongOf 13 = .ok (.iconst 0, 1) := by decide +kernel
theorem dX9_wrongOf_14 : decode cX9_wrongOf 14 = .ok (.istore 4, 2) := by decide +kernel
theorem dX9_wrongOf_16 : decode cX9_wrongOf 16 = .ok (.iload 4, 2) := by decide +kernel
theorem dX9_wrongOf_18 : decode cX9_wrongOf 18 = .ok (.bipush 30, 2) := by decide +kernel
theorem dX9_wrongOf_20 : decode cX9_wrongOf 20 = .ok (.if_icmp .gt 34, 3) := by decide +kernel
theorem dX9_wrongOf_23 : decode cX9_wrongOf 23 = .ok (.aload_n 0, 1) := by decide +kernel
theorem dX9_wrongOf_24 : decode cX9_wrongOf 24 = .ok (.iload_n 1, 1) := by decide +kernel
theorem dX9_wrongOf_25 : decode cX9_wrongOf 25 = .ok (.iload_n 3, 1) := by decide +kernel
theorem dX9_wrongOf_26 : decode cX9_wrongOf 26 = .ok (.iload 4, 2) := by decide +kernel
theorem dX9_wrongOf_28 : decode cX9_wrongOf 28 = .ok (.invokevirtual 341, 3) := by decide +kernel
theorem dX9_wrongOf_31 : decode cX9_wrongOf 31 = .ok (.iload_n 2, 1) := by decide +kernel
theorem dX9_wrongOf_32 : decode cX9_wrongOf 32 = .ok (.if_icmp .ge 14, 3) := by decide +kernel
theorem dX9_wrongOf_35 : decode cX9_wrongOf 35 = .ok (.aload_n 0, 1) := by decide +kernel
theorem dX9_wrongOf_36 : decode cX9_wrongOf 36 = .ok (.iload_n 1, 1) := by decide +kernel
theorem dX9_wrongOf_37 : decode cX9_wrongOf 37 = .ok (.iload_n 3, 1) := by decide +kernel
theorem dX9_wrongOf_38 : decode cX9_wrongOf 38 = .ok (.iload 4, 2) := by decide +kernel
theorem dX9_wrongOf_40 : decode cX9_wrongOf 40 = .ok (.invokevirtual 341, 3) := by decide +kernel
theorem dX9_wrongOf_43 : decode cX9_wrongOf 43 = .ok (.goto 4, 3) := by decide +kernel
theorem dX9_wrongOf_46 : decode cX9_wrongOf 46 = .ok (.iload_n 2, 1) := by decide +kernel
theorem dX9_wrongOf_47 : decode cX9_wrongOf 47 = .ok (.istore_n 2, 1) := by decide +kernel
theorem dX9_wrongOf_48 : decode cX9_wrongOf 48 = .ok (.iinc 4 1, 3) := by decide +kernel
theorem dX9_wrongOf_51 : decode cX9_wrongOf 51 = .ok (.goto (-35), 3) := by decide +kernel
theorem dX9_wrongOf_54 : decode cX9_wrongOf 54 = .ok (.iinc 3 1, 3) := by decide +kernel
theorem dX9_wrongOf_57 : decode cX9_wrongOf 57 = .ok (.goto (-51), 3) := by decide +kernel
theorem dX9_wrongOf_60 : decode cX9_wrongOf 60 = .ok (.iload_n 2, 1) := by decide +kernel
theorem dX9_wrongOf_61 : decode cX9_wrongOf 61 = .ok (.ireturn, 1) := by decide +kernel
theorem dX9_wrong_0 : decode cX9_wrong 0 = .ok (.aload_n 0, 1) := by decide +kernel
theorem dX9_wrong_1 : decode cX9_wrong 1 = .ok (.iconst 0, 1) := by decide +kernel
theorem dX9_wrong_2 : decode cX9_wrong 2 = .ok (.putfield 71, 3) := by decide +kernel
theorem dX9_wrong_5 : decode cX9_wrong 5 = .ok (.aload_n 0, 1) := by decide +kernel
theorem dX9_wrong_6 : decode cX9_wrong 6 = .ok (.iload_n 1, 1) := by decide +kernel
theorem dX9_wrong_7 : decode cX9_wrong 7 = .ok (.invokevirtual 334, 3) := by decide +kernel
theorem dX9_wrong_10 : decode cX9_wrong 10 = .ok (.istore_n 2, 1) := by decide +kernel
theorem dX9_wrong_11 : decode cX9_wrong 11 = .ok (.iload_n 2, 1) := by decide +kernel
theorem dX9_wrong_12 : decode cX9_wrong 12 = .ok (.ifCond .eq 7, 3) := by decide +kernel
theorem dX9_wrong_15 : decode cX9_wrong 15 = .ok (.iload_n 2, 1) := by decide +kernel
theorem dX9_wrong_16 : decode cX9_wrong 16 = .ok (.goto 8, 3) := by decide +kernel
theorem dX9_wrong_19 : decode cX9_wrong 19 = .ok (.aload_n 0, 1) := by decide +kernel
theorem dX9_wrong_20 : decode cX9_wrong 20 = .ok (.iload_n 1, 1) := by decide +kernel
theorem dX9_wrong_21 : decode cX9_wrong 21 = .ok (.invokevirtual 345, 3) := by decide +kernel
theorem dX9_wrong_24 : decode cX9_wrong 24 = .ok (.ireturn, 1) := by decide +kernel
theorem dX9_whyNotTen_0 : decode cX9_whyNotTen 0 = .ok (.aload_n 0, 1) := by decide +kernel
theorem dX9_whyNotTen_1 : decode cX9_whyNotTen 1 = .ok (.iload_n 1, 1) := by decide +kernel
theorem dX9_whyNotTen_2 : decode cX9_whyNotTen 2 = .ok (.invokevirtual 334, 3) := by decide +kernel
theorem dX9_whyNotTen_5 : decode cX9_whyNotTen 5 = .ok (.istore_n 2, 1) := by decide +kernel
theorem dX9_whyNotTen_6 : decode cX9_whyNotTen 6 = .ok (.iload_n 2, 1) := by decide +kernel
theorem dX9_whyNotTen_7 : decode cX9_whyNotTen 7 = .ok (.ifCond .eq 7, 3) := by decide +kernel
theorem dX9_whyNotTen_10 : decode cX9_whyNotTen 10 = .ok (.iload_n 2, 1) := by decide +kernel
theorem dX9_whyNotTen_11 : decode cX9_whyNotTen 11 = .ok (.goto 19, 3) := by decide +kernel
theorem dX9_whyNotTen_14 : decode cX9_whyNotTen 14 = .ok (.aload_n 0, 1) := by decide +kernel
theorem dX9_whyNotTen_15 : decode cX9_whyNotTen 15 = .ok (.iload_n 1, 1) := by decide +kernel
theorem dX9_whyNotTen_16 : decode cX9_whyNotTen 16 = .ok (.invokevirtual 327, 3) := by decide +kernel
theorem dX9_whyNotTen_19 : decode cX9_whyNotTen 19 = .ok (.bipush 10, 2) := by decide +kernel
theorem dX9_whyNotTen_21 : decode cX9_whyNotTen 21 = .ok (.if_icmp .le 8, 3) := by decide +kernel
theorem dX9_whyNotTen_24 : decode cX9_whyNotTen 24 = .ok (.bipush (-2), 2) := by decide +kernel
theorem dX9_whyNotTen_26 : decode cX9_whyNotTen 26 = .ok (.goto 4, 3) := by decide +kernel
theorem dX9_whyNotTen_29 : decode cX9_whyNotTen 29 = .ok (.iconst 0, 1) := by decide +kernel
theorem dX9_whyNotTen_30 : decode cX9_whyNotTen 30 = .ok (.ireturn, 1) := by decide +kernel
theorem dX9_wrongs_0 : decode cX9_wrongs 0 = .ok (.aload_n 0, 1) := by decide +kernel
theorem dX9_wrongs_1 : decode cX9_wrongs 1 = .ok (.iconst 0, 1) := by decide +kernel
theorem dX9_wrongs_2 : decode cX9_wrongs 2 = .ok (.putfield 71, 3) := by decide +kernel
theorem dX9_wrongs_5 : decode cX9_wrongs 5 = .ok (.aload_n 0, 1) := by decide +kernel
theorem dX9_wrongs_6 : decode cX9_wrongs 6 = .ok (.iload_n 1, 1) := by decide +kernel
theorem dX9_wrongs_7 : decode cX9_wrongs 7 = .ok (.invokevirtual 348, 3) := by decide +kernel
theorem dX9_wrongs_10 : decode cX9_wrongs 10 = .ok (.istore_n 2, 1) := by decide +kernel
theorem dX9_wrongs_11 : decode cX9_wrongs 11 = .ok (.iload_n 2, 1) := by decide +kernel
theorem dX9_wrongs_12 : decode cX9_wrongs 12 = .ok (.ifCond .eq 5, 3) := by decide +kernel
theorem dX9_wrongs_15 : decode cX9_wrongs 15 = .ok (.iload_n 2, 1) := by decide +kernel
theorem dX9_wrongs_16 : decode cX9_wrongs 16 = .ok (.ireturn, 1) := by decide +kernel
theorem dX9_wrongs_17 : decode cX9_wrongs 17 = .ok (.aload_n 0, 1) := by decide +kernel
theorem dX9_wrongs_18 : decode cX9_wrongs 18 = .ok (.iload_n 1, 1) := by decide +kernel
theorem dX9_wrongs_19 : decode cX9_wrongs 19 = .ok (.invokevirtual 345, 3) := by decide +kernel
theorem dX9_wrongs_22 : decode cX9_wrongs 22 = .ok (.istore_n 3, 1) := by decide +kernel
theorem dX9_wrongs_23 : decode cX9_wrongs 23 = .ok (.ldc_w 340, 3) := by decide +kernel
theorem dX9_wrongs_26 : decode cX9_wrongs 26 = .ok (.istore 4, 2) := by decide +kernel
theorem dX9_wrongs_28 : decode cX9_wrongs 28 = .ok (.iconst 1, 1) := by decide +kernel
theorem dX9_wrongs_29 : decode cX9_wrongs 29 = .ok (.istore 5, 2) := by decide +kernel
theorem dX9_wrongs_31 : decode cX9_wrongs 31 = .ok (.iload 5, 2) := by decide +kernel
theorem dX9_wrongs_33 : decode cX9_wrongs 33 = .ok (.sipush 200, 3) := by decide +kernel
theorem dX9_wrongs_36 : decode cX9_wrongs 36 = .ok (.if_icmp .gt 114, 3) := by decide +kernel
theorem dX9_wrongs_39 : decode cX9_wrongs 39 = .ok (.iconst 0, 1) := by decide +kernel
theorem dX9_wrongs_40 : decode cX9_wrongs 40 = .ok (.istore 6, 2) := by decide +kernel
theorem dX9_wrongs_42 : decode cX9_wrongs 42 = .ok (.iload 6, 2) := by decide +kernel
theorem dX9_wrongs_44 : decode cX9_wrongs 44 = .ok (.bipush 30, 2) := by decide +kernel
theorem dX9_wrongs_46 : decode cX9_wrongs 46 = .ok (.if_icmp .gt 98, 3) := by decide +kernel
theorem dX9_wrongs_49 : decode cX9_wrongs 49 = .ok (.aload_n 0, 1) := by decide +kernel
theorem dX9_wrongs_50 : decode cX9_wrongs 50 = .ok (.iload_n 1, 1) := by decide +kernel
theorem dX9_wrongs_51 : decode cX9_wrongs 51 = .ok (.iload 5, 2) := by decide +kernel
theorem dX9_wrongs_53 : decode cX9_wrongs 53 = .ok (.iload 6, 2) := by decide +kernel
theorem dX9_wrongs_55 : decode cX9_wrongs 55 = .ok (.invokevirtual 341, 3) := by decide +kernel
theorem dX9_wrongs_58 : decode cX9_wrongs 58 = .ok (.iload_n 3, 1) := by decide +kernel
theorem dX9_wrongs_59 : decode cX9_wrongs 59 = .ok (.if_icmp .eq 6, 3) := by decide +kernel
theorem dX9_wrongs_62 : decode cX9_wrongs 62 = .ok (.goto 76, 3) := by decide +kernel
theorem dX9_wrongs_65 : decode cX9_wrongs 65 = .ok (.iconst 0, 1) := by decide +kernel
theorem dX9_wrongs_66 : decode cX9_wrongs 66 = .ok (.istore 7, 2) := by decide +kernel
theorem dX9_wrongs_68 : decode cX9_wrongs 68 = .ok (.iconst 0, 1) := by decide +kernel
theorem dX9_wrongs_69 : decode cX9_wrongs 69 = .ok (.istore 8, 2) := by decide +kernel
theorem dX9_wrongs_71 : decode cX9_wrongs 71 = .ok (.iload 8, 2) := by decide +kernel
theorem dX9_wrongs_73 : decode cX9_wrongs 73 = .ok (.aload_n 0, 1) := by decide +kernel
theorem dX9_wrongs_74 : decode cX9_wrongs 74 = .ok (.iload_n 1, 1) := by decide +kernel
theorem dX9_wrongs_75 : decode cX9_wrongs 75 = .ok (.invokevirtual 327, 3) := by decide +kernel
theorem dX9_wrongs_78 : decode cX9_wrongs 78 = .ok (.if_icmp .ge 44, 3) := by decide +kernel
theorem dX9_wrongs_81 : decode cX9_wrongs 81 = .ok (.iload 7, 2) := by decide +kernel
theorem dX9_wrongs_83 : decode cX9_wrongs 83 = .ok (.aload_n 0, 1) := by decide +kernel
theorem dX9_wrongs_84 : decode cX9_wrongs 84 = .ok (.iload_n 1, 1) := by decide +kernel
theorem dX9_wrongs_85 : decode cX9_wrongs 85 = .ok (.iload 8, 2) := by decide +kernel
theorem dX9_wrongs_87 : decode cX9_wrongs 87 = .ok (.iload 5, 2) := by decide +kernel
theorem dX9_wrongs_89 : decode cX9_wrongs 89 = .ok (.iload 6, 2) := by decide +kernel
theorem dX9_wrongs_91 : decode cX9_wrongs 91 = .ok (.aload_n 0, 1) := by decide +kernel
theorem dX9_wrongs_92 : decode cX9_wrongs 92 = .ok (.iload_n 1, 1) := by decide +kernel
theorem dX9_wrongs_93 : decode cX9_wrongs 93 = .ok (.iload 8, 2) := by decide +kernel
theorem dX9_wrongs_95 : decode cX9_wrongs 95 = .ok (.iconst 1, 1) := by decide +kernel
theorem dX9_wrongs_96 : decode cX9_wrongs 96 = .ok (.invokevirtual 323, 3) := by decide +kernel
theorem dX9_wrongs_99 : decode cX9_wrongs 99 = .ok (.invokevirtual 330, 3) := by decide +kernel
theorem dX9_wrongs_102 : decode cX9_wrongs 102 = .ok (.ifCond .eq 7, 3) := by decide +kernel
theorem dX9_wrongs_105 : decode cX9_wrongs 105 = .ok (.iconst 0, 1) := by decide +kernel
theorem dX9_wrongs_106 : decode cX9_wrongs 106 = .ok (.goto 7, 3) := by decide +kernel
theorem dX9_wrongs_109 : decode cX9_wrongs 109 = .ok (.iconst 1, 1) := by decide +kernel
theorem dX9_wrongs_110 : decode cX9_wrongs 110 = .ok (.iload 8, 2) := by decide +kernel
theorem dX9_wrongs_112 : decode cX9_wrongs 112 = .ok (.ishl, 1) := by decide +kernel
theorem dX9_wrongs_113 : decode cX9_wrongs 113 = .ok (.ior, 1) := by decide +kernel
theorem dX9_wrongs_114 : decode cX9_wrongs 114 = .ok (.istore 7, 2) := by decide +kernel
theorem dX9_wrongs_116 : decode cX9_wrongs 116 = .ok (.iinc 8 1, 3) := by decide +kernel
theorem dX9_wrongs_119 : decode cX9_wrongs 119 = .ok (.goto (-48), 3) := by decide +kernel
theorem dX9_wrongs_122 : decode cX9_wrongs 122 = .ok (.iload 7, 2) := by decide +kernel
theorem dX9_wrongs_124 : decode cX9_wrongs 124 = .ok (.iload 4, 2) := by decide +kernel
theorem dX9_wrongs_126 : decode cX9_wrongs 126 = .ok (.if_icmp .ge 8, 3) := by decide +kernel
theorem dX9_wrongs_129 : decode cX9_wrongs 129 = .ok (.iload 7, 2) := by decide +kernel
theorem dX9_wrongs_131 : decode cX9_wrongs 131 = .ok (.goto 5, 3) := by decide +kernel
theorem dX9_wrongs_134 : decode cX9_wrongs 134 = .ok (.iload 4, 2) := by decide +kernel
theorem dX9_wrongs_136 : decode cX9_wrongs 136 = .ok (.istore 4, 2) := by decide +kernel
theorem dX9_wrongs_138 : decode cX9_wrongs 138 = .ok (.iinc 6 1, 3) := by decide +kernel
theorem dX9_wrongs_141 : decode cX9_wrongs 141 = .ok (.goto (-99), 3) := by decide +kernel
theorem dX9_wrongs_144 : decode cX9_wrongs 144 = .ok (.iinc 5 1, 3) := by decide +kernel
theorem dX9_wrongs_147 : decode cX9_wrongs 147 = .ok (.goto (-116), 3) := by decide +kernel
theorem dX9_wrongs_150 : decode cX9_wrongs 150 = .ok (.iload 4, 2) := by decide +kernel
theorem dX9_wrongs_152 : decode cX9_wrongs 152 = .ok (.ireturn, 1) := by decide +kernel
theorem dX9_ways_0 : decode cX9_ways 0 = .ok (.aload_n 0, 1) := by decide +kernel
theorem dX9_ways_1 : decode cX9_ways 1 = .ok (.iconst 0, 1) := by decide +kernel
theorem dX9_ways_2 : decode cX9_ways 2 = .ok (.putfield 71, 3) := by decide +kernel
theorem dX9_ways_5 : decode cX9_ways 5 = .ok (.aload_n 0, 1) := by decide +kernel
theorem dX9_ways_6 : decode cX9_ways 6 = .ok (.iload_n 1, 1) := by decide +kernel
theorem dX9_ways_7 : decode cX9_ways 7 = .ok (.invokevirtual 348, 3) := by decide +kernel
theorem dX9_ways_10 : decode cX9_ways 10 = .ok (.istore_n 2, 1) := by decide +kernel
theorem dX9_ways_11 : decode cX9_ways 11 = .ok (.iload_n 2, 1) := by decide +kernel
theorem dX9_ways_12 : decode cX9_ways 12 = .ok (.ifCond .eq 5, 3) := by decide +kernel
theorem dX9_ways_15 : decode cX9_ways 15 = .ok (.iload_n 2, 1) := by decide +kernel
theorem dX9_ways_16 : decode cX9_ways 16 = .ok (.ireturn, 1) := by decide +kernel
theorem dX9_ways_17 : decode cX9_ways 17 = .ok (.iconst 1, 1) := by decide +kernel
theorem dX9_ways_18 : decode cX9_ways 18 = .ok (.aload_n 0, 1) := by decide +kernel
theorem dX9_ways_19 : decode cX9_ways 19 = .ok (.iload_n 1, 1) := by decide +kernel
theorem dX9_ways_20 : decode cX9_ways 20 = .ok (.invokevirtual 327, 3) := by decide +kernel
theorem dX9_ways_23 : decode cX9_ways 23 = .ok (.ishl, 1) := by decide +kernel
theorem dX9_ways_24 : decode cX9_ways 24 = .ok (.istore_n 3, 1) := by decide +kernel
theorem dX9_ways_25 : decode cX9_ways 25 = .ok (.iconst 0, 1) := by decide +kernel
theorem dX9_ways_26 : decode cX9_ways 26 = .ok (.istore 4, 2) := by decide +kernel
theorem dX9_ways_28 : decode cX9_ways 28 = .ok (.iload 4, 2) := by decide +kernel
theorem dX9_ways_30 : decode cX9_ways 30 = .ok (.iload_n 3, 1) := by decide +kernel
theorem dX9_ways_31 : decode cX9_ways 31 = .ok (.if_icmp .ge 17, 3) := by decide +kernel
theorem dX9_ways_34 : decode cX9_ways 34 = .ok (.aload_n 0, 1) := by decide +kernel
theorem dX9_ways_35 : decode cX9_ways 35 = .ok (.getfield 56, 3) := by decide +kernel
theorem dX9_ways_38 : decode cX9_ways 38 = .ok (.iload 4, 2) := by decide +kernel
theorem dX9_ways_40 : decode cX9_ways 40 = .ok (.iconst 0, 1) := by decide +kernel
theorem dX9_ways_41 : decode cX9_ways 41 = .ok (.bastore, 1) := by decide +kernel
theorem dX9_ways_42 : decode cX9_ways 42 = .ok (.iinc 4 1, 3) := by decide +kernel
theorem dX9_ways_45 : decode cX9_ways 45 = .ok (.goto (-17), 3) := by decide +kernel
theorem dX9_ways_48 : decode cX9_ways 48 = .ok (.iconst 1, 1) := by decide +kernel
theorem dX9_ways_49 : decode cX9_ways 49 = .ok (.istore 4, 2) := by decide +kernel
theorem dX9_ways_51 : decode cX9_ways 51 = .ok (.iload 4, 2) := by decide +kernel
theorem dX9_ways_53 : decode cX9_ways 53 = .ok (.sipush 200, 3) := by decide +kernel
theorem dX9_ways_56 : decode cX9_ways 56 = .ok (.if_icmp .gt 171, 3) := by decide +kernel
theorem dX9_ways_59 : decode cX9_ways 59 = .ok (.iconst 0, 1) := by decide +kernel
theorem dX9_ways_60 : decode cX9_ways 60 = .ok (.istore 5, 2) := by decide +kernel
theorem dX9_ways_62 : decode cX9_ways 62 = .ok (.iload 5, 2) := by decide +kernel
theorem dX9_ways_64 : decode cX9_ways 64 = .ok (.bipush 30, 2) := by decide +kernel
theorem dX9_ways_66 : decode cX9_ways 66 = .ok (.if_icmp .gt 155, 3) := by decide +kernel
theorem dX9_ways_69 : decode cX9_ways 69 = .ok (.iconst 0, 1) := by decide +kernel
theorem dX9_ways_70 : decode cX9_ways 70 = .ok (.istore 6, 2) := by decide +kernel
theorem dX9_ways_72 : decode cX9_ways 72 = .ok (.iconst 0, 1) := by decide +kernel
theorem dX9_ways_73 : decode cX9_ways 73 = .ok (.istore 7, 2) := by decide +kernel
theorem dX9_ways_75 : decode cX9_ways 75 = .ok (.iconst 0, 1) := by decide +kernel
theorem dX9_ways_76 : decode cX9_ways 76 = .ok (.istore 8, 2) := by decide +kernel
theorem dX9_ways_78 : decode cX9_ways 78 = .ok (.iload 8, 2) := by decide +kernel
theorem dX9_ways_80 : decode cX9_ways 80 = .ok (.aload_n 0, 1) := by decide +kernel
theorem dX9_ways_81 : decode cX9_ways 81 = .ok (.iload_n 1, 1) := by decide +kernel
theorem dX9_ways_82 : decode cX9_ways 82 = .ok (.invokevirtual 327, 3) := by decide +kernel
theorem dX9_ways_85 : decode cX9_ways 85 = .ok (.if_icmp .ge 67, 3) := by decide +kernel
theorem dX9_ways_88 : decode cX9_ways 88 = .ok (.iload 6, 2) := by decide +kernel
theorem dX9_ways_90 : decode cX9_ways 90 = .ok (.aload_n 0, 1) := by decide +kernel
theorem dX9_ways_91 : decode cX9_ways 91 = .ok (.iload_n 1, 1) := by decide +kernel
theorem dX9_ways_92 : decode cX9_ways 92 = .ok (.iload 8, 2) := by decide +kernel
theorem dX9_ways_94 : decode cX9_ways 94 = .ok (.iload 4, 2) := by decide +kernel
theorem dX9_ways_96 : decode cX9_ways 96 = .ok (.iload 5, 2) := by decide +kernel
theorem dX9_ways_98 : decode cX9_ways 98 = .ok (.lconst 1, 1) := by decide +kernel
theorem dX9_ways_99 : decode cX9_ways 99 = .ok (.invokevirtual 330, 3) := by decide +kernel
theorem dX9_ways_102 : decode cX9_ways 102 = .ok (.ifCond .eq 10, 3) := by decide +kernel
theorem dX9_ways_105 : decode cX9_ways 105 = .ok (.iconst 1, 1) := by decide +kernel
theorem dX9_ways_106 : decode cX9_ways 106 = .ok (.iload 8, 2) := by decide +kernel
theorem dX9_ways_108 : decode cX9_ways 108 = .ok (.ishl, 1) := by decide +kernel
theorem dX9_ways_109 : decode cX9_ways 109 = .ok (.goto 4, 3) := by decide +kernel
theorem dX9_ways_112 : decode cX9_ways 112 = .ok (.iconst 0, 1) := by decide +kernel
theorem dX9_ways_113 : decode cX9_ways 113 = .ok (.ior, 1) := by decide +kernel
theorem dX9_ways_114 : decode cX9_ways 114 = .ok (.istore 6, 2) := by decide +kernel
theorem dX9_ways_116 : decode cX9_ways 116 = .ok (.iload 7, 2) := by decide +kernel
theorem dX9_ways_118 : decode cX9_ways 118 = .ok (.aload_n 0, 1) := by decide +kernel
theorem dX9_ways_119 : decode cX9_ways 119 = .ok (.iload_n 1, 1) := by decide +kernel
theorem dX9_ways_120 : decode cX9_ways 120 = .ok (.iload 8, 2) := by decide +kernel
theorem dX9_ways_122 : decode cX9_ways 122 = .ok (.iload 4, 2) := by decide +kernel
theorem dX9_ways_124 : decode cX9_ways 124 = .ok (.iload 5, 2) := by decide +kernel
theorem dX9_ways_126 : decode cX9_ways 126 = .ok (.ldc2_w 115, 3) := by decide +kernel
theorem dX9_ways_129 : decode cX9_ways 129 = .ok (.invokevirtual 330, 3) := by decide +kernel
theorem dX9_ways_132 : decode cX9_ways 132 = .ok (.ifCond .eq 10, 3) := by decide +kernel
theorem dX9_ways_135 : decode cX9_ways 135 = .ok (.iconst 1, 1) := by decide +kernel
theorem dX9_ways_136 : decode cX9_ways 136 = .ok (.iload 8, 2) := by decide +kernel
theorem dX9_ways_138 : decode cX9_ways 138 = .ok (.ishl, 1) := by decide +kernel
theorem dX9_ways_139 : decode cX9_ways 139 = .ok (.goto 4, 3) := by decide +kernel
theorem dX9_ways_142 : decode cX9_ways 142 = .ok (.iconst 0, 1) := by decide +kernel
theorem dX9_ways_143 : decode cX9_ways 143 = .ok (.ior, 1) := by decide +kernel
theorem dX9_ways_144 : decode cX9_ways 144 = .ok (.istore 7, 2) := by decide +kernel
theorem dX9_ways_146 : decode cX9_ways 146 = .ok (.iinc 8 1, 3) := by decide +kernel
theorem dX9_ways_149 : decode cX9_ways 149 = .ok (.goto (-71), 3) := by decide +kernel
theorem dX9_ways_152 : decode cX9_ways 152 = .ok (.iload 6, 2) := by decide +kernel
theorem dX9_ways_154 : decode cX9_ways 154 = .ok (.iload 7, 2) := by decide +kernel
theorem dX9_ways_156 : decode cX9_ways 156 = .ok (.ior, 1) := by decide +kernel
theorem dX9_ways_157 : decode cX9_ways 157 = .ok (.iload_n 3, 1) := by decide +kernel
theorem dX9_ways_158 : decode cX9_ways 158 = .ok (.iconst 1, 1) := by decide +kernel
theorem dX9_ways_159 : decode cX9_ways 159 = .ok (.isub, 1) := by decide +kernel
theorem dX9_ways_160 : decode cX9_ways 160 = .ok (.if_icmp .eq 6, 3) := by decide +kernel
theorem dX9_ways_163 : decode cX9_ways 163 = .ok (.goto 52, 3) := by decide +kernel
theorem dX9_ways_166 : decode cX9_ways 166 = .ok (.iconst 0, 1) := by decide +kernel
theorem dX9_ways_167 : decode cX9_ways 167 = .ok (.istore 8, 2) := by decide +kernel
theorem dX9_ways_169 : decode cX9_ways 169 = .ok (.iload 8, 2) := by decide +kernel
theorem dX9_ways_171 : decode cX9_ways 171 = .ok (.iload_n 3, 1) := by decide +kernel
theorem dX9_ways_172 : decode cX9_ways 172 = .ok (.if_icmp .ge 43, 3) := by decide +kernel
theorem dX9_ways_175 : decode cX9_ways 175 = .ok (.iload 8, 2) := by decide +kernel
theorem dX9_ways_177 : decode cX9_ways 177 = .ok (.iload 6, 2) := by decide +kernel
theorem dX9_ways_179 : decode cX9_ways 179 = .ok (.iconst (-1), 1) := by decide +kernel
theorem dX9_ways_180 : decode cX9_ways 180 = .ok (.ixor, 1) := by decide +kernel
theorem dX9_ways_181 : decode cX9_ways 181 = .ok (.iand, 1) := by decide +kernel
theorem dX9_ways_182 : decode cX9_ways 182 = .ok (.ifCond .ne 27, 3) := by decide +kernel
theorem dX9_ways_185 : decode cX9_ways 185 = .ok (.iload_n 3, 1) := by decide +kernel
theorem dX9_ways_186 : decode cX9_ways 186 = .ok (.iconst 1, 1) := by decide +kernel
theorem dX9_ways_187 : decode cX9_ways 187 = .ok (.isub, 1) := by decide +kernel
theorem dX9_ways_188 : decode cX9_ways 188 = .ok (.iload 8, 2) := by decide +kernel
theorem dX9_ways_190 : decode cX9_ways 190 = .ok (.iconst (-1), 1) := by decide +kernel
theorem dX9_ways_191 : decode cX9_ways 191 = .ok (.ixor, 1) := by decide +kernel
theorem dX9_ways_192 : decode cX9_ways 192 = .ok (.iand, 1) := by decide +kernel
theorem dX9_ways_193 : decode cX9_ways 193 = .ok (.iload 7, 2) := by decide +kernel
theorem dX9_ways_195 : decode cX9_ways 195 = .ok (.iconst (-1), 1) := by decide +kernel
theorem dX9_ways_196 : decode cX9_ways 196 = .ok (.ixor, 1) := by decide +kernel
theorem dX9_ways_197 : decode cX9_ways 197 = .ok (.iand, 1) := by decide +kernel
theorem dX9_ways_198 : decode cX9_ways 198 = .ok (.ifCond .ne 11, 3) := by decide +kernel
theorem dX9_ways_201 : decode cX9_ways 201 = .ok (.aload_n 0, 1) := by decide +kernel
theorem dX9_ways_202 : decode cX9_ways 202 = .ok (.getfield 56, 3) := by decide +kernel
theorem dX9_ways_205 : decode cX9_ways 205 = .ok (.iload 8, 2) := by decide +kernel
theorem dX9_ways_207 : decode cX9_ways 207 = .ok (.iconst 1, 1) := by decide +kernel
theorem dX9_ways_208 : decode cX9_ways 208 = .ok (.bastore, 1) := by decide +kernel
theorem dX9_ways_209 : decode cX9_ways 209 = .ok (.iinc 8 1, 3) := by decide +kernel
theorem dX9_ways_212 : decode cX9_ways 212 = .ok (.goto (-43), 3) := by decide +kernel
theorem dX9_ways_215 : decode cX9_ways 215 = .ok (.iinc 5 1, 3) := by decide +kernel
theorem dX9_ways_218 : decode cX9_ways 218 = .ok (.goto (-156), 3) := by decide +kernel
theorem dX9_ways_221 : decode cX9_ways 221 = .ok (.iinc 4 1, 3) := by decide +kernel
theorem dX9_ways_224 : decode cX9_ways 224 = .ok (.goto (-173), 3) := by decide +kernel
theorem dX9_ways_227 : decode cX9_ways 227 = .ok (.iconst 0, 1) := by decide +kernel
theorem dX9_ways_228 : decode cX9_ways 228 = .ok (.istore 4, 2) := by decide +kernel
theorem dX9_ways_230 : decode cX9_ways 230 = .ok (.iconst 0, 1) := by decide +kernel
theorem dX9_ways_231 : decode cX9_ways 231 = .ok (.istore 5, 2) := by decide +kernel
theorem dX9_ways_233 : decode cX9_ways 233 = .ok (.iload 5, 2) := by decide +kernel
theorem dX9_ways_235 : decode cX9_ways 235 = .ok (.iload_n 3, 1) := by decide +kernel
theorem dX9_ways_236 : decode cX9_ways 236 = .ok (.if_icmp .ge 29, 3) := by decide +kernel
theorem dX9_ways_239 : decode cX9_ways 239 = .ok (.iload 4, 2) := by decide +kernel
theorem dX9_ways_241 : decode cX9_ways 241 = .ok (.aload_n 0, 1) := by decide +kernel
theorem dX9_ways_242 : decode cX9_ways 242 = .ok (.getfield 56, 3) := by decide +kernel
theorem dX9_ways_245 : decode cX9_ways 245 = .ok (.iload 5, 2) := by decide +kernel
theorem dX9_ways_247 : decode cX9_ways 247 = .ok (.baload, 1) := by decide +kernel
theorem dX9_ways_248 : decode cX9_ways 248 = .ok (.ifCond .eq 7, 3) := by decide +kernel
theorem dX9_ways_251 : decode cX9_ways 251 = .ok (.iconst 1, 1) := by decide +kernel
theorem dX9_ways_252 : decode cX9_ways 252 = .ok (.goto 4, 3) := by decide +kernel
theorem dX9_ways_255 : decode cX9_ways 255 = .ok (.iconst 0, 1) := by decide +kernel
theorem dX9_ways_256 : decode cX9_ways 256 = .ok (.iadd, 1) := by decide +kernel
theorem dX9_ways_257 : decode cX9_ways 257 = .ok (.istore 4, 2) := by decide +kernel
theorem dX9_ways_259 : decode cX9_ways 259 = .ok (.iinc 5 1, 3) := by decide +kernel
theorem dX9_ways_262 : decode cX9_ways 262 = .ok (.goto (-29), 3) := by decide +kernel
theorem dX9_ways_265 : decode cX9_ways 265 = .ok (.iload 4, 2) := by decide +kernel
theorem dX9_ways_267 : decode cX9_ways 267 = .ok (.ireturn, 1) := by decide +kernel
theorem dX9_laysAsk_0 : decode cX9_laysAsk 0 = .ok (.iconst 0, 1) := by decide +kernel
theorem dX9_laysAsk_1 : decode cX9_laysAsk 1 = .ok (.istore_n 2, 1) := by decide +kernel
theorem dX9_laysAsk_2 : decode cX9_laysAsk 2 = .ok (.iconst 1, 1) := by decide +kernel
theorem dX9_laysAsk_3 : decode cX9_laysAsk 3 = .ok (.istore_n 3, 1) := by decide +kernel
theorem dX9_laysAsk_4 : decode cX9_laysAsk 4 = .ok (.iload_n 3, 1) := by decide +kernel
theorem dX9_laysAsk_5 : decode cX9_laysAsk 5 = .ok (.sipush 200, 3) := by decide +kernel
theorem dX9_laysAsk_8 : decode cX9_laysAsk 8 = .ok (.if_icmp .gt 68, 3) := by decide +kernel
theorem dX9_laysAsk_11 : decode cX9_laysAsk 11 = .ok (.iconst 0, 1) := by decide +kernel
theorem dX9_laysAsk_12 : decode cX9_laysAsk 12 = .ok (.istore 4, 2) := by decide +kernel
theorem dX9_laysAsk_14 : decode cX9_laysAsk 14 = .ok (.iload 4, 2) := by decide +kernel
theorem dX9_laysAsk_16 : decode cX9_laysAsk 16 = .ok (.bipush 30, 2) := by decide +kernel
theorem dX9_laysAsk_18 : decode cX9_laysAsk 18 = .ok (.if_icmp .gt 52, 3) := by decide +kernel
theorem dX9_laysAsk_21 : decode cX9_laysAsk 21 = .ok (.aload_n 0, 1) := by decide +kernel
theorem dX9_laysAsk_22 : decode cX9_laysAsk 22 = .ok (.getfield 62, 3) := by decide +kernel
theorem dX9_laysAsk_25 : decode cX9_laysAsk 25 = .ok (.bipush 31, 2) := by decide +kernel
theorem dX9_laysAsk_27 : decode cX9_laysAsk 27 = .ok (.iload_n 3, 1) := by decide +kernel
theorem dX9_laysAsk_28 : decode cX9_laysAsk 28 = .ok (.imul, 1) := by decide +kernel
theorem dX9_laysAsk_29 : decode cX9_laysAsk 29 = .ok (.iload 4, 2) := by decide +kernel
theorem dX9_laysAsk_31 : decode cX9_laysAsk 31 = .ok (.iadd, 1) := by decide +kernel
theorem dX9_laysAsk_32 : decode cX9_laysAsk 32 = .ok (.aload_n 0, 1) := by decide +kernel
theorem dX9_laysAsk_33 : decode cX9_laysAsk 33 = .ok (.iload_n 1, 1) := by decide +kernel
theorem dX9_laysAsk_34 : decode cX9_laysAsk 34 = .ok (.iload_n 3, 1) := by decide +kernel
theorem dX9_laysAsk_35 : decode cX9_laysAsk 35 = .ok (.iload 4, 2) := by decide +kernel
theorem dX9_laysAsk_37 : decode cX9_laysAsk 37 = .ok (.invokevirtual 337, 3) := by decide +kernel
theorem dX9_laysAsk_40 : decode cX9_laysAsk 40 = .ok (.bastore, 1) := by decide +kernel
theorem dX9_laysAsk_41 : decode cX9_laysAsk 41 = .ok (.iload_n 2, 1) := by decide +kernel
theorem dX9_laysAsk_42 : decode cX9_laysAsk 42 = .ok (.aload_n 0, 1) := by decide +kernel
theorem dX9_laysAsk_43 : decode cX9_laysAsk 43 = .ok (.getfield 62, 3) := by decide +kernel
theorem dX9_laysAsk_46 : decode cX9_laysAsk 46 = .ok (.bipush 31, 2) := by decide +kernel
theorem dX9_laysAsk_48 : decode cX9_laysAsk 48 = .ok (.iload_n 3, 1) := by decide +kernel
theorem dX9_laysAsk_49 : decode cX9_laysAsk 49 = .ok (.imul, 1) := by decide +kernel
theorem dX9_laysAsk_50 : decode cX9_laysAsk 50 = .ok (.iload 4, 2) := by decide +kernel
theorem dX9_laysAsk_52 : decode cX9_laysAsk 52 = .ok (.iadd, 1) := by decide +kernel
theorem dX9_laysAsk_53 : decode cX9_laysAsk 53 = .ok (.baload, 1) := by decide +kernel
theorem dX9_laysAsk_54 : decode cX9_laysAsk 54 = .ok (.ifCond .eq 7, 3) := by decide +kernel
theorem dX9_laysAsk_57 : decode cX9_laysAsk 57 = .ok (.iconst 1, 1) := by decide +kernel
theorem dX9_laysAsk_58 : decode cX9_laysAsk 58 = .ok (.goto 4, 3) := by decide +kernel
theorem dX9_laysAsk_61 : decode cX9_laysAsk 61 = .ok (.iconst 0, 1) := by decide +kernel
theorem dX9_laysAsk_62 : decode cX9_laysAsk 62 = .ok (.iadd, 1) := by decide +kernel
theorem dX9_laysAsk_63 : decode cX9_laysAsk 63 = .ok (.istore_n 2, 1) := by decide +kernel
theorem dX9_laysAsk_64 : decode cX9_laysAsk 64 = .ok (.iinc 4 1, 3) := by decide +kernel
theorem dX9_laysAsk_67 : decode cX9_laysAsk 67 = .ok (.goto (-53), 3) := by decide +kernel
theorem dX9_laysAsk_70 : decode cX9_laysAsk 70 = .ok (.iinc 3 1, 3) := by decide +kernel
theorem dX9_laysAsk_73 : decode cX9_laysAsk 73 = .ok (.goto (-69), 3) := by decide +kernel
theorem dX9_laysAsk_76 : decode cX9_laysAsk 76 = .ok (.aload_n 0, 1) := by decide +kernel
theorem dX9_laysAsk_77 : decode cX9_laysAsk 77 = .ok (.iconst (-1), 1) := by decide +kernel
theorem dX9_laysAsk_78 : decode cX9_laysAsk 78 = .ok (.putfield 351, 3) := by decide +kernel
theorem dX9_laysAsk_81 : decode cX9_laysAsk 81 = .ok (.aload_n 0, 1) := by decide +kernel
theorem dX9_laysAsk_82 : decode cX9_laysAsk 82 = .ok (.iload_n 2, 1) := by decide +kernel
theorem dX9_laysAsk_83 : decode cX9_laysAsk 83 = .ok (.putfield 354, 3) := by decide +kernel
theorem dX9_laysAsk_86 : decode cX9_laysAsk 86 = .ok (.iconst 1, 1) := by decide +kernel
theorem dX9_laysAsk_87 : decode cX9_laysAsk 87 = .ok (.istore_n 3, 1) := by decide +kernel
theorem dX9_laysAsk_88 : decode cX9_laysAsk 88 = .ok (.iload_n 3, 1) := by decide +kernel
theorem dX9_laysAsk_89 : decode cX9_laysAsk 89 = .ok (.bipush 30, 2) := by decide +kernel
theorem dX9_laysAsk_91 : decode cX9_laysAsk 91 = .ok (.if_icmp .gt 170, 3) := by decide +kernel
theorem dX9_laysAsk_94 : decode cX9_laysAsk 94 = .ok (.iconst 0, 1) := by decide +kernel
theorem dX9_laysAsk_95 : decode cX9_laysAsk 95 = .ok (.istore 4, 2) := by decide +kernel
theorem dX9_laysAsk_97 : decode cX9_laysAsk 97 = .ok (.iload 4, 2) := by decide +kernel
theorem dX9_laysAsk_99 : decode cX9_laysAsk 99 = .ok (.sipush 200, 3) := by decide +kernel
theorem dX9_laysAsk_102 : decode cX9_laysAsk 102 = .ok (.if_icmp .gt 17, 3) := by decide +kernel
theorem dX9_laysAsk_105 : decode cX9_laysAsk 105 = .ok (.aload_n 0, 1) := by decide +kernel
theorem dX9_laysAsk_106 : decode cX9_laysAsk 106 = .ok (.getfield 59, 3) := by decide +kernel
theorem dX9_laysAsk_109 : decode cX9_laysAsk 109 = .ok (.iload 4, 2) := by decide +kernel
theorem dX9_laysAsk_111 : decode cX9_laysAsk 111 = .ok (.iconst 0, 1) := by decide +kernel
theorem dX9_laysAsk_112 : decode cX9_laysAsk 112 = .ok (.iastore, 1) := by decide +kernel
theorem dX9_laysAsk_113 : decode cX9_laysAsk 113 = .ok (.iinc 4 1, 3) := by decide +kernel
theorem dX9_laysAsk_116 : decode cX9_laysAsk 116 = .ok (.goto (-19), 3) := by decide +kernel
theorem dX9_laysAsk_119 : decode cX9_laysAsk 119 = .ok (.iconst 1, 1) := by decide +kernel
theorem dX9_laysAsk_120 : decode cX9_laysAsk 120 = .ok (.istore 4, 2) := by decide +kernel
theorem dX9_laysAsk_122 : decode cX9_laysAsk 122 = .ok (.iload 4, 2) := by decide +kernel
theorem dX9_laysAsk_124 : decode cX9_laysAsk 124 = .ok (.sipush 200, 3) := by decide +kernel
theorem dX9_laysAsk_127 : decode cX9_laysAsk 127 = .ok (.if_icmp .gt 59, 3) := by decide +kernel
theorem dX9_laysAsk_130 : decode cX9_laysAsk 130 = .ok (.iconst 0, 1) := by decide +kernel
theorem dX9_laysAsk_131 : decode cX9_laysAsk 131 = .ok (.istore 5, 2) := by decide +kernel
theorem dX9_laysAsk_133 : decode cX9_laysAsk 133 = .ok (.iload 5, 2) := by decide +kernel
theorem dX9_laysAsk_135 : decode cX9_laysAsk 135 = .ok (.bipush 30, 2) := by decide +kernel
theorem dX9_laysAsk_137 : decode cX9_laysAsk 137 = .ok (.if_icmp .gt 43, 3) := by decide +kernel
theorem dX9_laysAsk_140 : decode cX9_laysAsk 140 = .ok (.aload_n 0, 1) := by decide +kernel
theorem dX9_laysAsk_141 : decode cX9_laysAsk 141 = .ok (.getfield 62, 3) := by decide +kernel
theorem dX9_laysAsk_144 : decode cX9_laysAsk 144 = .ok (.bipush 31, 2) := by decide +kernel
theorem dX9_laysAsk_146 : decode cX9_laysAsk 146 = .ok (.iload 4, 2) := by decide +kernel
theorem dX9_laysAsk_148 : decode cX9_laysAsk 148 = .ok (.imul, 1) := by decide +kernel
theorem dX9_laysAsk_149 : decode cX9_laysAsk 149 = .ok (.iload 5, 2) := by decide +kernel
theorem dX9_laysAsk_151 : decode cX9_laysAsk 151 = .ok (.iadd, 1) := by decide +kernel
theorem dX9_laysAsk_152 : decode cX9_laysAsk 152 = .ok (.baload, 1) := by decide +kernel
theorem dX9_laysAsk_153 : decode cX9_laysAsk 153 = .ok (.ifCond .eq 21, 3) := by decide +kernel
theorem dX9_laysAsk_156 : decode cX9_laysAsk 156 = .ok (.aload_n 0, 1) := by decide +kernel
theorem dX9_laysAsk_157 : decode cX9_laysAsk 157 = .ok (.getfield 59, 3) := by decide +kernel
theorem dX9_laysAsk_160 : decode cX9_laysAsk 160 = .ok (.iload_n 3, 1) := by decide +kernel
theorem dX9_laysAsk_161 : decode cX9_laysAsk 161 = .ok (.iload 4, 2) := by decide +kernel
theorem dX9_laysAsk_163 : decode cX9_laysAsk 163 = .ok (.imul, 1) := by decide +kernel
theorem dX9_laysAsk_164 : decode cX9_laysAsk 164 = .ok (.iload_n 3, 1) := by decide +kernel
theorem dX9_laysAsk_165 : decode cX9_laysAsk 165 = .ok (.iload 5, 2) := by decide +kernel
theorem dX9_laysAsk_167 : decode cX9_laysAsk 167 = .ok (.iadd, 1) := by decide +kernel
theorem dX9_laysAsk_168 : decode cX9_laysAsk 168 = .ok (.idiv, 1) := by decide +kernel
theorem dX9_laysAsk_169 : decode cX9_laysAsk 169 = .ok (.dup2, 1) := by decide +kernel
theorem dX9_laysAsk_170 : decode cX9_laysAsk 170 = .ok (.iaload, 1) := by decide +kernel
theorem dX9_laysAsk_171 : decode cX9_laysAsk 171 = .ok (.iconst 1, 1) := by decide +kernel
theorem dX9_laysAsk_172 : decode cX9_laysAsk 172 = .ok (.iadd, 1) := by decide +kernel
theorem dX9_laysAsk_173 : decode cX9_laysAsk 173 = .ok (.iastore, 1) := by decide +kernel
theorem dX9_laysAsk_174 : decode cX9_laysAsk 174 = .ok (.iinc 5 1, 3) := by decide +kernel
theorem dX9_laysAsk_177 : decode cX9_laysAsk 177 = .ok (.goto (-44), 3) := by decide +kernel
theorem dX9_laysAsk_180 : decode cX9_laysAsk 180 = .ok (.iinc 4 1, 3) := by decide +kernel
theorem dX9_laysAsk_183 : decode cX9_laysAsk 183 = .ok (.goto (-61), 3) := by decide +kernel
theorem dX9_laysAsk_186 : decode cX9_laysAsk 186 = .ok (.iconst 0, 1) := by decide +kernel
theorem dX9_laysAsk_187 : decode cX9_laysAsk 187 = .ok (.istore 4, 2) := by decide +kernel
theorem dX9_laysAsk_189 : decode cX9_laysAsk 189 = .ok (.iconst 0, 1) := by decide +kernel
theorem dX9_laysAsk_190 : decode cX9_laysAsk 190 = .ok (.istore 5, 2) := by decide +kernel
theorem dX9_laysAsk_192 : decode cX9_laysAsk 192 = .ok (.iload 5, 2) := by decide +kernel
theorem dX9_laysAsk_194 : decode cX9_laysAsk 194 = .ok (.sipush 200, 3) := by decide +kernel
theorem dX9_laysAsk_197 : decode cX9_laysAsk 197 = .ok (.if_icmp .gt 35, 3) := by decide +kernel
theorem dX9_laysAsk_200 : decode cX9_laysAsk 200 = .ok (.aload_n 0, 1) := by decide +kernel
theorem dX9_laysAsk_201 : decode cX9_laysAsk 201 = .ok (.getfield 59, 3) := by decide +kernel
theorem dX9_laysAsk_204 : decode cX9_laysAsk 204 = .ok (.iload 5, 2) := by decide +kernel
theorem dX9_laysAsk_206 : decode cX9_laysAsk 206 = .ok (.iaload, 1) := by decide +kernel
theorem dX9_laysAsk_207 : decode cX9_laysAsk 207 = .ok (.iload 4, 2) := by decide +kernel
theorem dX9_laysAsk_209 : decode cX9_laysAsk 209 = .ok (.if_icmp .le 13, 3) := by decide +kernel
theorem dX9_laysAsk_212 : decode cX9_laysAsk 212 = .ok (.aload_n 0, 1) := by decide +kernel
theorem dX9_laysAsk_213 : decode cX9_laysAsk 213 = .ok (.getfield 59, 3) := by decide +kernel
theorem dX9_laysAsk_216 : decode cX9_laysAsk 216 = .ok (.iload 5, 2) := by decide +kernel
theorem dX9_laysAsk_218 : decode cX9_laysAsk 218 = .ok (.iaload, 1) := by decide +kernel
theorem dX9_laysAsk_219 : decode cX9_laysAsk 219 = .ok (.goto 5, 3) := by decide +kernel
theorem dX9_laysAsk_222 : decode cX9_laysAsk 222 = .ok (.iload 4, 2) := by decide +kernel
theorem dX9_laysAsk_224 : decode cX9_laysAsk 224 = .ok (.istore 4, 2) := by decide +kernel
theorem dX9_laysAsk_226 : decode cX9_laysAsk 226 = .ok (.iinc 5 1, 3) := by decide +kernel
theorem dX9_laysAsk_229 : decode cX9_laysAsk 229 = .ok (.goto (-37), 3) := by decide +kernel
theorem dX9_laysAsk_232 : decode cX9_laysAsk 232 = .ok (.iload 4, 2) := by decide +kernel
theorem dX9_laysAsk_234 : decode cX9_laysAsk 234 = .ok (.aload_n 0, 1) := by decide +kernel
theorem dX9_laysAsk_235 : decode cX9_laysAsk 235 = .ok (.getfield 354, 3) := by decide +kernel
theorem dX9_laysAsk_238 : decode cX9_laysAsk 238 = .ok (.if_icmp .lt 6, 3) := by decide +kernel
theorem dX9_laysAsk_241 : decode cX9_laysAsk 241 = .ok (.goto 14, 3) := by decide +kernel
theorem dX9_laysAsk_244 : decode cX9_laysAsk 244 = .ok (.aload_n 0, 1) := by decide +kernel
theorem dX9_laysAsk_245 : decode cX9_laysAsk 245 = .ok (.iload_n 3, 1) := by decide +kernel
theorem dX9_laysAsk_246 : decode cX9_laysAsk 246 = .ok (.putfield 351, 3) := by decide +kernel
theorem dX9_laysAsk_249 : decode cX9_laysAsk 249 = .ok (.aload_n 0, 1) := by decide +kernel
theorem dX9_laysAsk_250 : decode cX9_laysAsk 250 = .ok (.iload 4, 2) := by decide +kernel
theorem dX9_laysAsk_252 : decode cX9_laysAsk 252 = .ok (.putfield 354, 3) := by decide +kernel
theorem dX9_laysAsk_255 : decode cX9_laysAsk 255 = .ok (.iinc 3 1, 3) := by decide +kernel
theorem dX9_laysAsk_258 : decode cX9_laysAsk 258 = .ok (.goto (-170), 3) := by decide +kernel
theorem dX9_laysAsk_261 : decode cX9_laysAsk 261 = .ok (.return_, 1) := by decide +kernel
theorem dX9_ask_0 : decode cX9_ask 0 = .ok (.aload_n 0, 1) := by decide +kernel
theorem dX9_ask_1 : decode cX9_ask 1 = .ok (.iconst 0, 1) := by decide +kernel
theorem dX9_ask_2 : decode cX9_ask 2 = .ok (.putfield 71, 3) := by decide +kernel
theorem dX9_ask_5 : decode cX9_ask 5 = .ok (.aload_n 0, 1) := by decide +kernel
theorem dX9_ask_6 : decode cX9_ask 6 = .ok (.iload_n 1, 1) := by decide +kernel
theorem dX9_ask_7 : decode cX9_ask 7 = .ok (.invokevirtual 334, 3) := by decide +kernel
theorem dX9_ask_10 : decode cX9_ask 10 = .ok (.istore_n 2, 1) := by decide +kernel
theorem dX9_ask_11 : decode cX9_ask 11 = .ok (.iload_n 2, 1) := by decide +kernel
theorem dX9_ask_12 : decode cX9_ask 12 = .ok (.ifCond .eq 5, 3) := by decide +kernel
theorem dX9_ask_15 : decode cX9_ask 15 = .ok (.iload_n 2, 1) := by decide +kernel
theorem dX9_ask_16 : decode cX9_ask 16 = .ok (.ireturn, 1) := by decide +kernel
theorem dX9_ask_17 : decode cX9_ask 17 = .ok (.aload_n 0, 1) := by decide +kernel
theorem dX9_ask_18 : decode cX9_ask 18 = .ok (.iload_n 1, 1) := by decide +kernel
theorem dX9_ask_19 : decode cX9_ask 19 = .ok (.invokevirtual 357, 3) := by decide +kernel
theorem dX9_ask_22 : decode cX9_ask 22 = .ok (.aload_n 0, 1) := by decide +kernel
theorem dX9_ask_23 : decode cX9_ask 23 = .ok (.getfield 351, 3) := by decide +kernel
theorem dX9_ask_26 : decode cX9_ask 26 = .ok (.ireturn, 1) := by decide +kernel
theorem dX9_left_0 : decode cX9_left 0 = .ok (.aload_n 0, 1) := by decide +kernel
theorem dX9_left_1 : decode cX9_left 1 = .ok (.iconst 0, 1) := by decide +kernel
theorem dX9_left_2 : decode cX9_left 2 = .ok (.putfield 71, 3) := by decide +kernel
theorem dX9_left_5 : decode cX9_left 5 = .ok (.aload_n 0, 1) := by decide +kernel
theorem dX9_left_6 : decode cX9_left 6 = .ok (.iload_n 1, 1) := by decide +kernel
theorem dX9_left_7 : decode cX9_left 7 = .ok (.invokevirtual 334, 3) := by decide +kernel
theorem dX9_left_10 : decode cX9_left 10 = .ok (.istore_n 2, 1) := by decide +kernel
theorem dX9_left_11 : decode cX9_left 11 = .ok (.iload_n 2, 1) := by decide +kernel
theorem dX9_left_12 : decode cX9_left 12 = .ok (.ifCond .eq 5, 3) := by decide +kernel
theorem dX9_left_15 : decode cX9_left 15 = .ok (.iload_n 2, 1) := by decide +kernel
theorem dX9_left_16 : decode cX9_left 16 = .ok (.ireturn, 1) := by decide +kernel
theorem dX9_left_17 : decode cX9_left 17 = .ok (.aload_n 0, 1) := by decide +kernel
theorem dX9_left_18 : decode cX9_left 18 = .ok (.iload_n 1, 1) := by decide +kernel
theorem dX9_left_19 : decode cX9_left 19 = .ok (.invokevirtual 357, 3) := by decide +kernel
theorem dX9_left_22 : decode cX9_left 22 = .ok (.aload_n 0, 1) := by decide +kernel
theorem dX9_left_23 : decode cX9_left 23 = .ok (.getfield 354, 3) := by decide +kernel
theorem dX9_left_26 : decode cX9_left 26 = .ok (.ireturn, 1) := by decide +kernel
theorem dX9_isExact_0 : decode cX9_isExact 0 = .ok (.aload_n 0, 1) := by decide +kernel
theorem dX9_isExact_1 : decode cX9_isExact 1 = .ok (.iload_n 1, 1) := by decide +kernel
theorem dX9_isExact_2 : decode cX9_isExact 2 = .ok (.iconst 0, 1) := by decide +kernel
theorem dX9_isExact_3 : decode cX9_isExact 3 = .ok (.iconst 0, 1) := by decide +kernel
theorem dX9_isExact_4 : decode cX9_isExact 4 = .ok (.invokevirtual 323, 3) := by decide +kernel
theorem dX9_isExact_7 : decode cX9_isExact 7 = .ok (.lstore_n 2, 1) := by decide +kernel
theorem dX9_isExact_8 : decode cX9_isExact 8 = .ok (.aload_n 0, 1) := by decide +kernel
theorem dX9_isExact_9 : decode cX9_isExact 9 = .ok (.iload_n 1, 1) := by decide +kernel
theorem dX9_isExact_10 : decode cX9_isExact 10 = .ok (.iconst 1, 1) := by decide +kernel
theorem dX9_isExact_11 : decode cX9_isExact 11 = .ok (.iconst 0, 1) := by decide +kernel
theorem dX9_isExact_12 : decode cX9_isExact 12 = .ok (.invokevirtual 323, 3) := by decide +kernel
theorem dX9_isExact_15 : decode cX9_isExact 15 = .ok (.lstore 4, 2) := by decide +kernel
theorem dX9_isExact_17 : decode cX9_isExact 17 = .ok (.aload_n 0, 1) := by decide +kernel
theorem dX9_isExact_18 : decode cX9_isExact 18 = .ok (.iload_n 1, 1) := by decide +kernel
theorem dX9_isExact_19 : decode cX9_isExact 19 = .ok (.iconst 0, 1) := by decide +kernel
theorem dX9_isExact_20 : decode cX9_isExact 20 = .ok (.iconst 2, 1) := by decide +kernel
theorem dX9_isExact_21 : decode cX9_isExact 21 = .ok (.invokevirtual 323, 3) := by decide +kernel
theorem dX9_isExact_24 : decode cX9_isExact 24 = .ok (.lstore 6, 2) := by decide +kernel
theorem dX9_isExact_26 : decode cX9_isExact 26 = .ok (.aload_n 0, 1) := by decide +kernel
theorem dX9_isExact_27 : decode cX9_isExact 27 = .ok (.iload_n 1, 1) := by decide +kernel
theorem dX9_isExact_28 : decode cX9_isExact 28 = .ok (.iconst 1, 1) := by decide +kernel
theorem dX9_isExact_29 : decode cX9_isExact 29 = .ok (.iconst 2, 1) := by decide +kernel
theorem dX9_isExact_30 : decode cX9_isExact 30 = .ok (.invokevirtual 323, 3) := by decide +kernel
theorem dX9_isExact_33 : decode cX9_isExact 33 = .ok (.lstore 8, 2) := by decide +kernel
theorem dX9_isExact_35 : decode cX9_isExact 35 = .ok (.aload_n 0, 1) := by decide +kernel
theorem dX9_isExact_36 : decode cX9_isExact 36 = .ok (.lload 8, 2) := by decide +kernel
theorem dX9_isExact_38 : decode cX9_isExact 38 = .ok (.lload 6, 2) := by decide +kernel
theorem dX9_isExact_40 : decode cX9_isExact 40 = .ok (.lsub, 1) := by decide +kernel
theorem dX9_isExact_41 : decode cX9_isExact 41 = .ok (.lload_n 2, 1) := by decide +kernel
theorem dX9_isExact_42 : decode cX9_isExact 42 = .ok (.lmul, 1) := by decide +kernel
theorem dX9_isExact_43 : decode cX9_isExact 43 = .ok (.lload 4, 2) := by decide +kernel
theorem dX9_isExact_45 : decode cX9_isExact 45 = .ok (.lmul, 1) := by decide +kernel
theorem dX9_isExact_46 : decode cX9_isExact 46 = .ok (.putfield 360, 3) := by decide +kernel
theorem dX9_isExact_49 : decode cX9_isExact 49 = .ok (.aload_n 0, 1) := by decide +kernel
theorem dX9_isExact_50 : decode cX9_isExact 50 = .ok (.lload 6, 2) := by decide +kernel
theorem dX9_isExact_52 : decode cX9_isExact 52 = .ok (.aload_n 0, 1) := by decide +kernel
theorem dX9_isExact_53 : decode cX9_isExact 53 = .ok (.iload_n 1, 1) := by decide +kernel
theorem dX9_isExact_54 : decode cX9_isExact 54 = .ok (.iconst 0, 1) := by decide +kernel
theorem dX9_isExact_55 : decode cX9_isExact 55 = .ok (.iconst 1, 1) := by decide +kernel
theorem dX9_isExact_56 : decode cX9_isExact 56 = .ok (.invokevirtual 323, 3) := by decide +kernel
theorem dX9_isExact_59 : decode cX9_isExact 59 = .ok (.lmul, 1) := by decide +kernel
theorem dX9_isExact_60 : decode cX9_isExact 60 = .ok (.lload 4, 2) := by decide +kernel
theorem dX9_isExact_62 : decode cX9_isExact 62 = .ok (.lmul, 1) := by decide +kernel
theorem dX9_isExact_63 : decode cX9_isExact 63 = .ok (.lload 8, 2) := by decide +kernel
theorem dX9_isExact_65 : decode cX9_isExact 65 = .ok (.aload_n 0, 1) := by decide +kernel
theorem dX9_isExact_66 : decode cX9_isExact 66 = .ok (.iload_n 1, 1) := by decide +kernel
theorem dX9_isExact_67 : decode cX9_isExact 67 = .ok (.iconst 1, 1) := by decide +kernel
theorem dX9_isExact_68 : decode cX9_isExact 68 = .ok (.iconst 1, 1) := by decide +kernel
theorem dX9_isExact_69 : decode cX9_isExact 69 = .ok (.invokevirtual 323, 3) := by decide +kernel
theorem dX9_isExact_72 : decode cX9_isExact 72 = .ok (.lmul, 1) := by decide +kernel
theorem dX9_isExact_73 : decode cX9_isExact 73 = .ok (.lload_n 2, 1) := by decide +kernel
theorem dX9_isExact_74 : decode cX9_isExact 74 = .ok (.lmul, 1) := by decide +kernel
theorem dX9_isExact_75 : decode cX9_isExact 75 = .ok (.lsub, 1) := by decide +kernel
theorem dX9_isExact_76 : decode cX9_isExact 76 = .ok (.putfield 363, 3) := by decide +kernel
theorem dX9_isExact_79 : decode cX9_isExact 79 = .ok (.aload_n 0, 1) := by decide +kernel
theorem dX9_isExact_80 : decode cX9_isExact 80 = .ok (.getfield 363, 3) := by decide +kernel
theorem dX9_isExact_83 : decode cX9_isExact 83 = .ok (.lconst 0, 1) := by decide +kernel
theorem dX9_isExact_84 : decode cX9_isExact 84 = .ok (.lcmp, 1) := by decide +kernel
theorem dX9_isExact_85 : decode cX9_isExact 85 = .ok (.ifCond .ne 5, 3) := by decide +kernel
theorem dX9_isExact_88 : decode cX9_isExact 88 = .ok (.iconst 0, 1) := by decide +kernel
theorem dX9_isExact_89 : decode cX9_isExact 89 = .ok (.ireturn, 1) := by decide +kernel
theorem dX9_isExact_90 : decode cX9_isExact 90 = .ok (.aload_n 0, 1) := by decide +kernel
theorem dX9_isExact_91 : decode cX9_isExact 91 = .ok (.getfield 363, 3) := by decide +kernel
theorem dX9_isExact_94 : decode cX9_isExact 94 = .ok (.lconst 0, 1) := by decide +kernel
theorem dX9_isExact_95 : decode cX9_isExact 95 = .ok (.lcmp, 1) := by decide +kernel
theorem dX9_isExact_96 : decode cX9_isExact 96 = .ok (.ifCond .ge 21, 3) := by decide +kernel
theorem dX9_isExact_99 : decode cX9_isExact 99 = .ok (.aload_n 0, 1) := by decide +kernel
theorem dX9_isExact_100 : decode cX9_isExact 100 = .ok (.aload_n 0, 1) := by decide +kernel
theorem dX9_isExact_101 : decode cX9_isExact 101 = .ok (.getfield 360, 3) := by decide +kernel
theorem dX9_isExact_104 : decode cX9_isExact 104 = .ok (.lneg, 1) := by decide +kernel
theorem dX9_isExact_105 : decode cX9_isExact 105 = .ok (.putfield 360, 3) := by decide +kernel
theorem dX9_isExact_108 : decode cX9_isExact 108 = .ok (.aload_n 0, 1) := by decide +kernel
theorem dX9_isExact_109 : decode cX9_isExact 109 = .ok (.aload_n 0, 1) := by decide +kernel
theorem dX9_isExact_110 : decode cX9_isExact 110 = .ok (.getfield 363, 3) := by decide +kernel
theorem dX9_isExact_113 : decode cX9_isExact 113 = .ok (.lneg, 1) := by decide +kernel
theorem dX9_isExact_114 : decode cX9_isExact 114 = .ok (.putfield 363, 3) := by decide +kernel
theorem dX9_isExact_117 : decode cX9_isExact 117 = .ok (.aload_n 0, 1) := by decide +kernel
theorem dX9_isExact_118 : decode cX9_isExact 118 = .ok (.lload 6, 2) := by decide +kernel
theorem dX9_isExact_120 : decode cX9_isExact 120 = .ok (.lload_n 2, 1) := by decide +kernel
theorem dX9_isExact_121 : decode cX9_isExact 121 = .ok (.aload_n 0, 1) := by decide +kernel
theorem dX9_isExact_122 : decode cX9_isExact 122 = .ok (.getfield 363, 3) := by decide +kernel
theorem dX9_isExact_125 : decode cX9_isExact 125 = .ok (.lmul, 1) := by decide +kernel
theorem dX9_isExact_126 : decode cX9_isExact 126 = .ok (.aload_n 0, 1) := by decide +kernel
theorem dX9_isExact_127 : decode cX9_isExact 127 = .ok (.iload_n 1, 1) := by decide +kernel
theorem dX9_isExact_128 : decode cX9_isExact 128 = .ok (.iconst 0, 1) := by decide +kernel
theorem dX9_isExact_129 : decode cX9_isExact 129 = .ok (.iconst 1, 1) := by decide +kernel
theorem dX9_isExact_130 : decode cX9_isExact 130 = .ok (.invokevirtual 323, 3) := by decide +kernel
theorem dX9_isExact_133 : decode cX9_isExact 133 = .ok (.aload_n 0, 1) := by decide +kernel
theorem dX9_isExact_134 : decode cX9_isExact 134 = .ok (.getfield 360, 3) := by decide +kernel
theorem dX9_isExact_137 : decode cX9_isExact 137 = .ok (.lmul, 1) := by decide +kernel
theorem dX9_isExact_138 : decode cX9_isExact 138 = .ok (.ladd, 1) := by decide +kernel
theorem dX9_isExact_139 : decode cX9_isExact 139 = .ok (.lmul, 1) := by decide +kernel
theorem dX9_isExact_140 : decode cX9_isExact 140 = .ok (.putfield 366, 3) := by decide +kernel
theorem dX9_isExact_143 : decode cX9_isExact 143 = .ok (.aload_n 0, 1) := by decide +kernel
theorem dX9_isExact_144 : decode cX9_isExact 144 = .ok (.lload_n 2, 1) := by decide +kernel
theorem dX9_isExact_145 : decode cX9_isExact 145 = .ok (.aload_n 0, 1) := by decide +kernel
theorem dX9_isExact_146 : decode cX9_isExact 146 = .ok (.getfield 363, 3) := by decide +kernel
theorem dX9_isExact_149 : decode cX9_isExact 149 = .ok (.lmul, 1) := by decide +kernel
theorem dX9_isExact_150 : decode cX9_isExact 150 = .ok (.putfield 369, 3) := by decide +kernel
theorem dX9_isExact_153 : decode cX9_isExact 153 = .ok (.iconst 1, 1) := by decide +kernel
theorem dX9_isExact_154 : decode cX9_isExact 154 = .ok (.ireturn, 1) := by decide +kernel
theorem dX9_whyNotExact_0 : decode cX9_whyNotExact 0 = .ok (.iload_n 2, 1) := by decide +kernel
theorem dX9_whyNotExact_1 : decode cX9_whyNotExact 1 = .ok (.invokestatic 260, 3) := by decide +kernel
theorem dX9_whyNotExact_4 : decode cX9_whyNotExact 4 = .ok (.ifCond .eq 11, 3) := by decide +kernel
theorem dX9_whyNotExact_7 : decode cX9_whyNotExact 7 = .ok (.aload_n 0, 1) := by decide +kernel
theorem dX9_whyNotExact_8 : decode cX9_whyNotExact 8 = .ok (.iload_n 1, 1) := by decide +kernel
theorem dX9_whyNotExact_9 : decode cX9_whyNotExact 9 = .ok (.invokevirtual 334, 3) := by decide +kernel
theorem dX9_whyNotExact_12 : decode cX9_whyNotExact 12 = .ok (.goto 5, 3) := by decide +kernel
theorem dX9_whyNotExact_15 : decode cX9_whyNotExact 15 = .ok (.bipush (-2), 2) := by decide +kernel
theorem dX9_whyNotExact_17 : decode cX9_whyNotExact 17 = .ok (.istore_n 3, 1) := by decide +kernel
theorem dX9_whyNotExact_18 : decode cX9_whyNotExact 18 = .ok (.iload_n 3, 1) := by decide +kernel
theorem dX9_whyNotExact_19 : decode cX9_whyNotExact 19 = .ok (.ifCond .eq 7, 3) := by decide +kernel
theorem dX9_whyNotExact_22 : decode cX9_whyNotExact 22 = .ok (.iload_n 3, 1) := by decide +kernel
theorem dX9_whyNotExact_23 : decode cX9_whyNotExact 23 = .ok (.goto 18, 3) := by decide +kernel
theorem dX9_whyNotExact_26 : decode cX9_whyNotExact 26 = .ok (.aload_n 0, 1) := by decide +kernel
theorem dX9_whyNotExact_27 : decode cX9_whyNotExact 27 = .ok (.iload_n 1, 1) := by decide +kernel
theorem dX9_whyNotExact_28 : decode cX9_whyNotExact 28 = .ok (.invokevirtual 327, 3) := by decide +kernel
theorem dX9_whyNotExact_31 : decode cX9_whyNotExact 31 = .ok (.iconst 2, 1) := by decide +kernel
theorem dX9_whyNotExact_32 : decode cX9_whyNotExact 32 = .ok (.if_icmp .ge 8, 3) := by decide +kernel
theorem dX9_whyNotExact_35 : decode cX9_whyNotExact 35 = .ok (.bipush (-2), 2) := by decide +kernel
theorem dX9_whyNotExact_37 : decode cX9_whyNotExact 37 = .ok (.goto 4, 3) := by decide +kernel
theorem dX9_whyNotExact_40 : decode cX9_whyNotExact 40 = .ok (.iconst 0, 1) := by decide +kernel
theorem dX9_whyNotExact_41 : decode cX9_whyNotExact 41 = .ok (.ireturn, 1) := by decide +kernel
theorem dX9_exact_0 : decode cX9_exact 0 = .ok (.aload_n 0, 1) := by decide +kernel
theorem dX9_exact_1 : decode cX9_exact 1 = .ok (.iconst 0, 1) := by decide +kernel
theorem dX9_exact_2 : decode cX9_exact 2 = .ok (.putfield 71, 3) := by decide +kernel
theorem dX9_exact_5 : decode cX9_exact 5 = .ok (.aload_n 0, 1) := by decide +kernel
theorem dX9_exact_6 : decode cX9_exact 6 = .ok (.iload_n 1, 1) := by decide +kernel
theorem dX9_exact_7 : decode cX9_exact 7 = .ok (.iload_n 2, 1) := by decide +kernel
theorem dX9_exact_8 : decode cX9_exact 8 = .ok (.invokevirtual 372, 3) := by decide +kernel
theorem dX9_exact_11 : decode cX9_exact 11 = .ok (.istore_n 3, 1) := by decide +kernel
theorem dX9_exact_12 : decode cX9_exact 12 = .ok (.iload_n 3, 1) := by decide +kernel
theorem dX9_exact_13 : decode cX9_exact 13 = .ok (.ifCond .eq 6, 3) := by decide +kernel
theorem dX9_exact_16 : decode cX9_exact 16 = .ok (.iload_n 3, 1) := by decide +kernel
theorem dX9_exact_17 : decode cX9_exact 17 = .ok (.i2l, 1) := by decide +kernel
theorem dX9_exact_18 : decode cX9_exact 18 = .ok (.lreturn, 1) := by decide +kernel
theorem dX9_exact_19 : decode cX9_exact 19 = .ok (.aload_n 0, 1) := by decide +kernel
theorem dX9_exact_20 : decode cX9_exact 20 = .ok (.iload_n 1, 1) := by decide +kernel
theorem dX9_exact_21 : decode cX9_exact 21 = .ok (.invokevirtual 375, 3) := by decide +kernel
theorem dX9_exact_24 : decode cX9_exact 24 = .ok (.ifCond .ne 7, 3) := by decide +kernel
theorem dX9_exact_27 : decode cX9_exact 27 = .ok (.ldc2_w 115, 3) := by decide +kernel
theorem dX9_exact_30 : decode cX9_exact 30 = .ok (.lreturn, 1) := by decide +kernel
theorem dX9_exact_31 : decode cX9_exact 31 = .ok (.iload_n 2, 1) := by decide +kernel
theorem dX9_exact_32 : decode cX9_exact 32 = .ok (.ifCond .ne 10, 3) := by decide +kernel
theorem dX9_exact_35 : decode cX9_exact 35 = .ok (.aload_n 0, 1) := by decide +kernel
theorem dX9_exact_36 : decode cX9_exact 36 = .ok (.getfield 366, 3) := by decide +kernel
theorem dX9_exact_39 : decode cX9_exact 39 = .ok (.goto 7, 3) := by decide +kernel
theorem dX9_exact_42 : decode cX9_exact 42 = .ok (.aload_n 0, 1) := by decide +kernel
theorem dX9_exact_43 : decode cX9_exact 43 = .ok (.getfield 369, 3) := by decide +kernel
theorem dX9_exact_46 : decode cX9_exact 46 = .ok (.aload_n 0, 1) := by decide +kernel
theorem dX9_exact_47 : decode cX9_exact 47 = .ok (.getfield 366, 3) := by decide +kernel
theorem dX9_exact_50 : decode cX9_exact 50 = .ok (.aload_n 0, 1) := by decide +kernel
theorem dX9_exact_51 : decode cX9_exact 51 = .ok (.getfield 369, 3) := by decide +kernel
theorem dX9_exact_54 : decode cX9_exact 54 = .ok (.invokestatic 239, 3) := by decide +kernel
theorem dX9_exact_57 : decode cX9_exact 57 = .ok (.ldiv, 1) := by decide +kernel
theorem dX9_exact_58 : decode cX9_exact 58 = .ok (.lreturn, 1) := by decide +kernel
theorem dX9_quick_0 : decode cX9_quick 0 = .ok (.aload_n 0, 1) := by decide +kernel
theorem dX9_quick_1 : decode cX9_quick 1 = .ok (.iconst 0, 1) := by decide +kernel
theorem dX9_quick_2 : decode cX9_quick 2 = .ok (.putfield 71, 3) := by decide +kernel
theorem dX9_quick_5 : decode cX9_quick 5 = .ok (.aload_n 0, 1) := by decide +kernel
theorem dX9_quick_6 : decode cX9_quick 6 = .ok (.iload_n 1, 1) := by decide +kernel
theorem dX9_quick_7 : decode cX9_quick 7 = .ok (.iload_n 2, 1) := by decide +kernel
theorem dX9_quick_8 : decode cX9_quick 8 = .ok (.invokevirtual 372, 3) := by decide +kernel
theorem dX9_quick_11 : decode cX9_quick 11 = .ok (.istore_n 3, 1) := by decide +kernel
theorem dX9_quick_12 : decode cX9_quick 12 = .ok (.iload_n 3, 1) := by decide +kernel
theorem dX9_quick_13 : decode cX9_quick 13 = .ok (.ifCond .eq 6, 3) := by decide +kernel
theorem dX9_quick_16 : decode cX9_quick 16 = .ok (.iload_n 3, 1) := by decide +kernel
theorem dX9_quick_17 : decode cX9_quick 17 = .ok (.i2l, 1) := by decide +kernel
theorem dX9_quick_18 : decode cX9_quick 18 = .ok (.lreturn, 1) := by decide +kernel
theorem dX9_quick_19 : decode cX9_quick 19 = .ok (.aload_n 0, 1) := by decide +kernel
theorem dX9_quick_20 : decode cX9_quick 20 = .ok (.iload_n 1, 1) := by decide +kernel
theorem dX9_quick_21 : decode cX9_quick 21 = .ok (.invokevirtual 375, 3) := by decide +kernel
theorem dX9_quick_24 : decode cX9_quick 24 = .ok (.ifCond .ne 7, 3) := by decide +kernel
theorem dX9_quick_27 : decode cX9_quick 27 = .ok (.ldc2_w 115, 3) := by decide +kernel
theorem dX9_quick_30 : decode cX9_quick 30 = .ok (.lreturn, 1) := by decide +kernel
theorem dX9_quick_31 : decode cX9_quick 31 = .ok (.iload_n 2, 1) := by decide +kernel
theorem dX9_quick_32 : decode cX9_quick 32 = .ok (.ifCond .ne 10, 3) := by decide +kernel
theorem dX9_quick_35 : decode cX9_quick 35 = .ok (.aload_n 0, 1) := by decide +kernel
theorem dX9_quick_36 : decode cX9_quick 36 = .ok (.getfield 360, 3) := by decide +kernel
theorem dX9_quick_39 : decode cX9_quick 39 = .ok (.goto 7, 3) := by decide +kernel
theorem dX9_quick_42 : decode cX9_quick 42 = .ok (.aload_n 0, 1) := by decide +kernel
theorem dX9_quick_43 : decode cX9_quick 43 = .ok (.getfield 363, 3) := by decide +kernel
theorem dX9_quick_46 : decode cX9_quick 46 = .ok (.aload_n 0, 1) := by decide +kernel
theorem dX9_quick_47 : decode cX9_quick 47 = .ok (.getfield 360, 3) := by decide +kernel
theorem dX9_quick_50 : decode cX9_quick 50 = .ok (.aload_n 0, 1) := by decide +kernel
theorem dX9_quick_51 : decode cX9_quick 51 = .ok (.getfield 363, 3) := by decide +kernel
theorem dX9_quick_54 : decode cX9_quick 54 = .ok (.invokestatic 239, 3) := by decide +kernel
theorem dX9_quick_57 : decode cX9_quick 57 = .ok (.ldiv, 1) := by decide +kernel
theorem dX9_quick_58 : decode cX9_quick 58 = .ok (.lreturn, 1) := by decide +kernel
theorem dX9_flows_0 : decode cX9_flows 0 = .ok (.aload_n 0, 1) := by decide +kernel
theorem dX9_flows_1 : decode cX9_flows 1 = .ok (.invokevirtual 253, 3) := by decide +kernel
theorem dX9_flows_4 : decode cX9_flows 4 = .ok (.iload_n 2, 1) := by decide +kernel
theorem dX9_flows_5 : decode cX9_flows 5 = .ok (.ifCond .ne 26, 3) := by decide +kernel
theorem dX9_flows_8 : decode cX9_flows 8 = .ok (.aload_n 0, 1) := by decide +kernel
theorem dX9_flows_9 : decode cX9_flows 9 = .ok (.ldc2_w 378, 3) := by decide +kernel
theorem dX9_flows_12 : decode cX9_flows 12 = .ok (.aload_n 0, 1) := by decide +kernel
theorem dX9_flows_13 : decode cX9_flows 13 = .ok (.getfield 53, 3) := by decide +kernel
theorem dX9_flows_16 : decode cX9_flows 16 = .ok (.iload_n 1, 1) := by decide +kernel
theorem dX9_flows_17 : decode cX9_flows 17 = .ok (.iaload, 1) := by decide +kernel
theorem dX9_flows_18 : decode cX9_flows 18 = .ok (.i2l, 1) := by decide +kernel
theorem dX9_flows_19 : decode cX9_flows 19 = .ok (.lmul, 1) := by decide +kernel
theorem dX9_flows_20 : decode cX9_flows 20 = .ok (.aload_n 0, 1) := by decide +kernel
theorem dX9_flows_21 : decode cX9_flows 21 = .ok (.getfield 34, 3) := by decide +kernel
theorem dX9_flows_24 : decode cX9_flows 24 = .ok (.iconst 4, 1) := by decide +kernel
theorem dX9_flows_25 : decode cX9_flows 25 = .ok (.iaload, 1) := by decide +kernel
theorem dX9_flows_26 : decode cX9_flows 26 = .ok (.i2l, 1) := by decide +kernel
theorem dX9_flows_27 : decode cX9_flows 27 = .ok (.invokevirtual 256, 3) := by decide +kernel
theorem dX9_flows_30 : decode cX9_flows 30 = .ok (.return_, 1) := by decide +kernel
theorem dX9_flows_31 : decode cX9_flows 31 = .ok (.aload_n 0, 1) := by decide +kernel
theorem dX9_flows_32 : decode cX9_flows 32 = .ok (.getfield 53, 3) := by decide +kernel
theorem dX9_flows_35 : decode cX9_flows 35 = .ok (.iload_n 1, 1) := by decide +kernel
theorem dX9_flows_36 : decode cX9_flows 36 = .ok (.iaload, 1) := by decide +kernel
theorem dX9_flows_37 : decode cX9_flows 37 = .ok (.aload_n 0, 1) := by decide +kernel
theorem dX9_flows_38 : decode cX9_flows 38 = .ok (.getfield 34, 3) := by decide +kernel
theorem dX9_flows_41 : decode cX9_flows 41 = .ok (.bipush 6, 2) := by decide +kernel
theorem dX9_flows_43 : decode cX9_flows 43 = .ok (.iaload, 1) := by decide +kernel
theorem dX9_flows_44 : decode cX9_flows 44 = .ok (.iadd, 1) := by decide +kernel
theorem dX9_flows_45 : decode cX9_flows 45 = .ok (.i2l, 1) := by decide +kernel
theorem dX9_flows_46 : decode cX9_flows 46 = .ok (.lstore 4, 2) := by decide +kernel
theorem dX9_flows_48 : decode cX9_flows 48 = .ok (.iload_n 3, 1) := by decide +kernel
theorem dX9_flows_49 : decode cX9_flows 49 = .ok (.ifCond .ne 22, 3) := by decide +kernel
theorem dX9_flows_52 : decode cX9_flows 52 = .ok (.aload_n 0, 1) := by decide +kernel
theorem dX9_flows_53 : decode cX9_flows 53 = .ok (.aload_n 0, 1) := by decide +kernel
theorem dX9_flows_54 : decode cX9_flows 54 = .ok (.getfield 53, 3) := by decide +kernel
theorem dX9_flows_57 : decode cX9_flows 57 = .ok (.iload_n 1, 1) := by decide +kernel
theorem dX9_flows_58 : decode cX9_flows 58 = .ok (.iaload, 1) := by decide +kernel
theorem dX9_flows_59 : decode cX9_flows 59 = .ok (.i2l, 1) := by decide +kernel
theorem dX9_flows_60 : decode cX9_flows 60 = .ok (.aload_n 0, 1) := by decide +kernel
theorem dX9_flows_61 : decode cX9_flows 61 = .ok (.getfield 34, 3) := by decide +kernel
theorem dX9_flows_64 : decode cX9_flows 64 = .ok (.iconst 4, 1) := by decide +kernel
theorem dX9_flows_65 : decode cX9_flows 65 = .ok (.iaload, 1) := by decide +kernel
theorem dX9_flows_66 : decode cX9_flows 66 = .ok (.i2l, 1) := by decide +kernel
theorem dX9_flows_67 : decode cX9_flows 67 = .ok (.invokevirtual 256, 3) := by decide +kernel
theorem dX9_flows_70 : decode cX9_flows 70 = .ok (.return_, 1) := by decide +kernel
theorem dX9_flows_71 : decode cX9_flows 71 = .ok (.iload_n 3, 1) := by decide +kernel
theorem dX9_flows_72 : decode cX9_flows 72 = .ok (.bipush 100, 2) := by decide +kernel
theorem dX9_flows_74 : decode cX9_flows 74 = .ok (.if_icmp .ne 17, 3) := by decide +kernel
theorem dX9_flows_77 : decode cX9_flows 77 = .ok (.aload_n 0, 1) := by decide +kernel
theorem dX9_flows_78 : decode cX9_flows 78 = .ok (.lload 4, 2) := by decide +kernel
theorem dX9_flows_80 : decode cX9_flows 80 = .ok (.aload_n 0, 1) := by decide +kernel
theorem dX9_flows_81 : decode cX9_flows 81 = .ok (.getfield 34, 3) := by decide +kernel
theorem dX9_flows_84 : decode cX9_flows 84 = .ok (.iconst 5, 1) := by decide +kernel
theorem dX9_flows_85 : decode cX9_flows 85 = .ok (.iaload, 1) := by decide +kernel
theorem dX9_flows_86 : decode cX9_flows 86 = .ok (.i2l, 1) := by decide +kernel
theorem dX9_flows_87 : decode cX9_flows 87 = .ok (.invokevirtual 256, 3) := by decide +kernel
theorem dX9_flows_90 : decode cX9_flows 90 = .ok (.return_, 1) := by decide +kernel
theorem dX9_flows_91 : decode cX9_flows 91 = .ok (.ldc2_w 380, 3) := by decide +kernel
theorem dX9_flows_94 : decode cX9_flows 94 = .ok (.lload 4, 2) := by decide +kernel
theorem dX9_flows_96 : decode cX9_flows 96 = .ok (.lmul, 1) := by decide +kernel
theorem dX9_flows_97 : decode cX9_flows 97 = .ok (.lstore 6, 2) := by decide +kernel
theorem dX9_flows_99 : decode cX9_flows 99 = .ok (.aload_n 0, 1) := by decide +kernel
theorem dX9_flows_100 : decode cX9_flows 100 = .ok (.getfield 34, 3) := by decide +kernel
theorem dX9_flows_103 : decode cX9_flows 103 = .ok (.iconst 5, 1) := by decide +kernel
theorem dX9_flows_104 : decode cX9_flows 104 = .ok (.iaload, 1) := by decide +kernel
theorem dX9_flows_105 : decode cX9_flows 105 = .ok (.i2l, 1) := by decide +kernel
theorem dX9_flows_106 : decode cX9_flows 106 = .ok (.iload_n 3, 1) := by decide +kernel
theorem dX9_flows_107 : decode cX9_flows 107 = .ok (.i2l, 1) := by decide +kernel
theorem dX9_flows_108 : decode cX9_flows 108 = .ok (.lmul, 1) := by decide +kernel
theorem dX9_flows_109 : decode cX9_flows 109 = .ok (.lstore 8, 2) := by decide +kernel
theorem dX9_flows_111 : decode cX9_flows 111 = .ok (.ldc2_w 380, 3) := by decide +kernel
theorem dX9_flows_114 : decode cX9_flows 114 = .ok (.aload_n 0, 1) := by decide +kernel
theorem dX9_flows_115 : decode cX9_flows 115 = .ok (.getfield 53, 3) := by decide +kernel
theorem dX9_flows_118 : decode cX9_flows 118 = .ok (.iload_n 1, 1) := by decide +kernel
theorem dX9_flows_119 : decode cX9_flows 119 = .ok (.iaload, 1) := by decide +kernel
theorem dX9_flows_120 : decode cX9_flows 120 = .ok (.i2l, 1) := by decide +kernel
theorem dX9_flows_121 : decode cX9_flows 121 = .ok (.lmul, 1) := by decide +kernel
theorem dX9_flows_122 : decode cX9_flows 122 = .ok (.lstore 10, 2) := by decide +kernel
theorem dX9_flows_124 : decode cX9_flows 124 = .ok (.aload_n 0, 1) := by decide +kernel
theorem dX9_flows_125 : decode cX9_flows 125 = .ok (.getfield 34, 3) := by decide +kernel
theorem dX9_flows_128 : decode cX9_flows 128 = .ok (.iconst 4, 1) := by decide +kernel
theorem dX9_flows_129 : decode cX9_flows 129 = .ok (.iaload, 1) := by decide +kernel
theorem dX9_flows_130 : decode cX9_flows 130 = .ok (.i2l, 1) := by decide +kernel
theorem dX9_flows_131 : decode cX9_flows 131 = .ok (.bipush 100, 2) := by decide +kernel
theorem dX9_flows_133 : decode cX9_flows 133 = .ok (.iload_n 3, 1) := by decide +kernel
theorem dX9_flows_134 : decode cX9_flows 134 = .ok (.isub, 1) := by decide +kernel
theorem dX9_flows_135 : decode cX9_flows 135 = .ok (.i2l, 1) := by decide +kernel
theorem dX9_flows_136 : decode cX9_flows 136 = .ok (.lmul, 1) := by decide +kernel
theorem dX9_flows_137 : decode cX9_flows 137 = .ok (.lstore 12, 2) := by decide +kernel
theorem dX9_flows_139 : decode cX9_flows 139 = .ok (.lload 6, 2) := by decide +kernel
theorem dX9_flows_141 : decode cX9_flows 141 = .ok (.lload 8, 2) := by decide +kernel
theorem dX9_flows_143 : decode cX9_flows 143 = .ok (.lload 10, 2) := by decide +kernel
theorem dX9_flows_145 : decode cX9_flows 145 = .ok (.lload 12, 2) := by decide +kernel
theorem dX9_flows_147 : decode cX9_flows 147 = .ok (.invokestatic 249, 3) := by decide +kernel
theorem dX9_flows_150 : decode cX9_flows 150 = .ok (.ifCond .eq 14, 3) := by decide +kernel
theorem dX9_flows_153 : decode cX9_flows 153 = .ok (.aload_n 0, 1) := by decide +kernel
theorem dX9_flows_154 : decode cX9_flows 154 = .ok (.lload 6, 2) := by decide +kernel
theorem dX9_flows_156 : decode cX9_flows 156 = .ok (.lload 8, 2) := by decide +kernel
theorem dX9_flows_158 : decode cX9_flows 158 = .ok (.invokevirtual 256, 3) := by decide +kernel
theorem dX9_flows_161 : decode cX9_flows 161 = .ok (.goto 11, 3) := by decide +kernel
theorem dX9_flows_164 : decode cX9_flows 164 = .ok (.aload_n 0, 1) := by decide +kernel
theorem dX9_flows_165 : decode cX9_flows 165 = .ok (.lload 10, 2) := by decide +kernel
theorem dX9_flows_167 : decode cX9_flows 167 = .ok (.lload 12, 2) := by decide +kernel
theorem dX9_flows_169 : decode cX9_flows 169 = .ok (.invokevirtual 256, 3) := by decide +kernel
theorem dX9_flows_172 : decode cX9_flows 172 = .ok (.return_, 1) := by decide +kernel
theorem dX9_areSides_0 : decode cX9_areSides 0 = .ok (.aload_n 0, 1) := by decide +kernel
theorem dX9_areSides_1 : decode cX9_areSides 1 = .ok (.iload_n 1, 1) := by decide +kernel
theorem dX9_areSides_2 : decode cX9_areSides 2 = .ok (.invokevirtual 227, 3) := by decide +kernel
theorem dX9_areSides_5 : decode cX9_areSides 5 = .ok (.ifCond .eq 12, 3) := by decide +kernel
theorem dX9_areSides_8 : decode cX9_areSides 8 = .ok (.aload_n 0, 1) := by decide +kernel
theorem dX9_areSides_9 : decode cX9_areSides 9 = .ok (.getfield 34, 3) := by decide +kernel
theorem dX9_areSides_12 : decode cX9_areSides 12 = .ok (.iconst 4, 1) := by decide +kernel
theorem dX9_areSides_13 : decode cX9_areSides 13 = .ok (.iaload, 1) := by decide +kernel
theorem dX9_areSides_14 : decode cX9_areSides 14 = .ok (.ifCond .ne 5, 3) := by decide +kernel
theorem dX9_areSides_17 : decode cX9_areSides 17 = .ok (.iconst 0, 1) := by decide +kernel
theorem dX9_areSides_18 : decode cX9_areSides 18 = .ok (.ireturn, 1) := by decide +kernel
theorem dX9_areSides_19 : decode cX9_areSides 19 = .ok (.aload_n 0, 1) := by decide +kernel
theorem dX9_areSides_20 : decode cX9_areSides 20 = .ok (.invokevirtual 230, 3) := by decide +kernel
theorem dX9_areSides_23 : decode cX9_areSides 23 = .ok (.iconst 1, 1) := by decide +kernel
theorem dX9_areSides_24 : decode cX9_areSides 24 = .ok (.ireturn, 1) := by decide +kernel
theorem dX9_stand_0 : decode cX9_stand 0 = .ok (.aload_n 0, 1) := by decide +kernel
theorem dX9_stand_1 : decode cX9_stand 1 = .ok (.iconst 0, 1) := by decide +kernel
theorem dX9_stand_2 : decode cX9_stand 2 = .ok (.putfield 71, 3) := by decide +kernel
theorem dX9_stand_5 : decode cX9_stand 5 = .ok (.aload_n 0, 1) := by decide +kernel
theorem dX9_stand_6 : decode cX9_stand 6 = .ok (.iload_n 1, 1) := by decide +kernel
theorem dX9_stand_7 : decode cX9_stand 7 = .ok (.invokevirtual 382, 3) := by decide +kernel
theorem dX9_stand_10 : decode cX9_stand 10 = .ok (.ifCond .eq 10, 3) := by decide +kernel
theorem dX9_stand_13 : decode cX9_stand 13 = .ok (.iload_n 2, 1) := by decide +kernel
theorem dX9_stand_14 : decode cX9_stand 14 = .ok (.invokestatic 260, 3) := by decide +kernel
theorem dX9_stand_17 : decode cX9_stand 17 = .ok (.ifCond .ne 7, 3) := by decide +kernel
theorem dX9_stand_20 : decode cX9_stand 20 = .ok (.ldc2_w 267, 3) := by decide +kernel
theorem dX9_stand_23 : decode cX9_stand 23 = .ok (.lreturn, 1) := by decide +kernel
theorem dX9_stand_24 : decode cX9_stand 24 = .ok (.aload_n 0, 1) := by decide +kernel
theorem dX9_stand_25 : decode cX9_stand 25 = .ok (.getfield 53, 3) := by decide +kernel
theorem dX9_stand_28 : decode cX9_stand 28 = .ok (.iload_n 1, 1) := by decide +kernel
theorem dX9_stand_29 : decode cX9_stand 29 = .ok (.iaload, 1) := by decide +kernel
theorem dX9_stand_30 : decode cX9_stand 30 = .ok (.ifCond .gt 7, 3) := by decide +kernel
theorem dX9_stand_33 : decode cX9_stand 33 = .ok (.ldc2_w 115, 3) := by decide +kernel
theorem dX9_stand_36 : decode cX9_stand 36 = .ok (.lreturn, 1) := by decide +kernel
theorem dX9_stand_37 : decode cX9_stand 37 = .ok (.aload_n 0, 1) := by decide +kernel
theorem dX9_stand_38 : decode cX9_stand 38 = .ok (.iload_n 1, 1) := by decide +kernel
theorem dX9_stand_39 : decode cX9_stand 39 = .ok (.iconst 0, 1) := by decide +kernel
theorem dX9_stand_40 : decode cX9_stand 40 = .ok (.iconst 0, 1) := by decide +kernel
theorem dX9_stand_41 : decode cX9_stand 41 = .ok (.invokevirtual 385, 3) := by decide +kernel
theorem dX9_stand_44 : decode cX9_stand 44 = .ok (.aload_n 0, 1) := by decide +kernel
theorem dX9_stand_45 : decode cX9_stand 45 = .ok (.iload_n 2, 1) := by decide +kernel
theorem dX9_stand_46 : decode cX9_stand 46 = .ok (.invokevirtual 272, 3) := by decide +kernel
theorem dX9_stand_49 : decode cX9_stand 49 = .ok (.lreturn, 1) := by decide +kernel
theorem dX9_walk_0 : decode cX9_walk 0 = .ok (.aload_n 0, 1) := by decide +kernel
theorem dX9_walk_1 : decode cX9_walk 1 = .ok (.iconst 0, 1) := by decide +kernel
theorem dX9_walk_2 : decode cX9_walk 2 = .ok (.putfield 71, 3) := by decide +kernel
theorem dX9_walk_5 : decode cX9_walk 5 = .ok (.aload_n 0, 1) := by decide +kernel
theorem dX9_walk_6 : decode cX9_walk 6 = .ok (.iload_n 1, 1) := by decide +kernel
theorem dX9_walk_7 : decode cX9_walk 7 = .ok (.invokevirtual 382, 3) := by decide +kernel
theorem dX9_walk_10 : decode cX9_walk 10 = .ok (.ifCond .eq 10, 3) := by decide +kernel
theorem dX9_walk_13 : decode cX9_walk 13 = .ok (.iload_n 2, 1) := by decide +kernel
theorem dX9_walk_14 : decode cX9_walk 14 = .ok (.invokestatic 260, 3) := by decide +kernel
theorem dX9_walk_17 : decode cX9_walk 17 = .ok (.ifCond .ne 7, 3) := by decide +kernel
theorem dX9_walk_20 : decode cX9_walk 20 = .ok (.ldc2_w 267, 3) := by decide +kernel
theorem dX9_walk_23 : decode cX9_walk 23 = .ok (.lreturn, 1) := by decide +kernel
theorem dX9_walk_24 : decode cX9_walk 24 = .ok (.aload_n 0, 1) := by decide +kernel
theorem dX9_walk_25 : decode cX9_walk 25 = .ok (.getfield 53, 3) := by decide +kernel
theorem dX9_walk_28 : decode cX9_walk 28 = .ok (.iload_n 1, 1) := by decide +kernel
theorem dX9_walk_29 : decode cX9_walk 29 = .ok (.iaload, 1) := by decide +kernel
theorem dX9_walk_30 : decode cX9_walk 30 = .ok (.ifCond .gt 7, 3) := by decide +kernel
theorem dX9_walk_33 : decode cX9_walk 33 = .ok (.ldc2_w 115, 3) := by decide +kernel
theorem dX9_walk_36 : decode cX9_walk 36 = .ok (.lreturn, 1) := by decide +kernel
theorem dX9_walk_37 : decode cX9_walk 37 = .ok (.aload_n 0, 1) := by decide +kernel
theorem dX9_walk_38 : decode cX9_walk 38 = .ok (.iload_n 1, 1) := by decide +kernel
theorem dX9_walk_39 : decode cX9_walk 39 = .ok (.iconst 1, 1) := by decide +kernel
theorem dX9_walk_40 : decode cX9_walk 40 = .ok (.aload_n 0, 1) := by decide +kernel
theorem dX9_walk_41 : decode cX9_walk 41 = .ok (.getfield 34, 3) := by decide +kernel
theorem dX9_walk_44 : decode cX9_walk 44 = .ok (.bipush 7, 2) := by decide +kernel
theorem dX9_walk_46 : decode cX9_walk 46 = .ok (.iaload, 1) := by decide +kernel
theorem dX9_walk_47 : decode cX9_walk 47 = .ok (.invokevirtual 385, 3) := by decide +kernel
theorem dX9_walk_50 : decode cX9_walk 50 = .ok (.aload_n 0, 1) := by decide +kernel
theorem dX9_walk_51 : decode cX9_walk 51 = .ok (.iload_n 2, 1) := by decide +kernel
theorem dX9_walk_52 : decode cX9_walk 52 = .ok (.invokevirtual 272, 3) := by decide +kernel
theorem dX9_walk_55 : decode cX9_walk 55 = .ok (.lreturn, 1) := by decide +kernel
theorem dX9_moreBy_0 : decode cX9_moreBy 0 = .ok (.aload_n 0, 1) := by decide +kernel
theorem dX9_moreBy_1 : decode cX9_moreBy 1 = .ok (.iload_n 1, 1) := by decide +kernel
theorem dX9_moreBy_2 : decode cX9_moreBy 2 = .ok (.iconst 0, 1) := by decide +kernel
theorem dX9_moreBy_3 : decode cX9_moreBy 3 = .ok (.iconst 0, 1) := by decide +kernel
theorem dX9_moreBy_4 : decode cX9_moreBy 4 = .ok (.invokevirtual 385, 3) := by decide +kernel
theorem dX9_moreBy_7 : decode cX9_moreBy 7 = .ok (.aload_n 0, 1) := by decide +kernel
theorem dX9_moreBy_8 : decode cX9_moreBy 8 = .ok (.getfield 246, 3) := by decide +kernel
theorem dX9_moreBy_11 : decode cX9_moreBy 11 = .ok (.lstore_n 3, 1) := by decide +kernel
theorem dX9_moreBy_12 : decode cX9_moreBy 12 = .ok (.aload_n 0, 1) := by decide +kernel
theorem dX9_moreBy_13 : decode cX9_moreBy 13 = .ok (.getfield 243, 3) := by decide +kernel
theorem dX9_moreBy_16 : decode cX9_moreBy 16 = .ok (.lstore 5, 2) := by decide +kernel
theorem dX9_moreBy_18 : decode cX9_moreBy 18 = .ok (.aload_n 0, 1) := by decide +kernel
theorem dX9_moreBy_19 : decode cX9_moreBy 19 = .ok (.iload_n 1, 1) := by decide +kernel
theorem dX9_moreBy_20 : decode cX9_moreBy 20 = .ok (.iconst 1, 1) := by decide +kernel
theorem dX9_moreBy_21 : decode cX9_moreBy 21 = .ok (.iload_n 2, 1) := by decide +kernel
theorem dX9_moreBy_22 : decode cX9_moreBy 22 = .ok (.invokevirtual 385, 3) := by decide +kernel
theorem dX9_moreBy_25 : decode cX9_moreBy 25 = .ok (.lload_n 3, 1) := by decide +kernel
theorem dX9_moreBy_26 : decode cX9_moreBy 26 = .ok (.lload 5, 2) := by decide +kernel
theorem dX9_moreBy_28 : decode cX9_moreBy 28 = .ok (.aload_n 0, 1) := by decide +kernel
theorem dX9_moreBy_29 : decode cX9_moreBy 29 = .ok (.getfield 246, 3) := by decide +kernel
theorem dX9_moreBy_32 : decode cX9_moreBy 32 = .ok (.aload_n 0, 1) := by decide +kernel
theorem dX9_moreBy_33 : decode cX9_moreBy 33 = .ok (.getfield 243, 3) := by decide +kernel
theorem dX9_moreBy_36 : decode cX9_moreBy 36 = .ok (.invokestatic 249, 3) := by decide +kernel
theorem dX9_moreBy_39 : decode cX9_moreBy 39 = .ok (.ifCond .eq 7, 3) := by decide +kernel
theorem dX9_moreBy_42 : decode cX9_moreBy 42 = .ok (.iconst 1, 1) := by decide +kernel
theorem dX9_moreBy_43 : decode cX9_moreBy 43 = .ok (.goto 25, 3) := by decide +kernel
theorem dX9_moreBy_46 : decode cX9_moreBy 46 = .ok (.aload_n 0, 1) := by decide +kernel
theorem dX9_moreBy_47 : decode cX9_moreBy 47 = .ok (.getfield 246, 3) := by decide +kernel
theorem dX9_moreBy_50 : decode cX9_moreBy 50 = .ok (.aload_n 0, 1) := by decide +kernel
theorem dX9_moreBy_51 : decode cX9_moreBy 51 = .ok (.getfield 243, 3) := by decide +kernel
theorem dX9_moreBy_54 : decode cX9_moreBy 54 = .ok (.lload_n 3, 1) := by decide +kernel
theorem dX9_moreBy_55 : decode cX9_moreBy 55 = .ok (.lload 5, 2) := by decide +kernel
theorem dX9_moreBy_57 : decode cX9_moreBy 57 = .ok (.invokestatic 249, 3) := by decide +kernel
theorem dX9_moreBy_60 : decode cX9_moreBy 60 = .ok (.ifCond .eq 7, 3) := by decide +kernel
theorem dX9_moreBy_63 : decode cX9_moreBy 63 = .ok (.iconst (-1), 1) := by decide +kernel
theorem dX9_moreBy_64 : decode cX9_moreBy 64 = .ok (.goto 4, 3) := by decide +kernel
theorem dX9_moreBy_67 : decode cX9_moreBy 67 = .ok (.iconst 0, 1) := by decide +kernel
theorem dX9_moreBy_68 : decode cX9_moreBy 68 = .ok (.ireturn, 1) := by decide +kernel
theorem dX9_more_0 : decode cX9_more 0 = .ok (.aload_n 0, 1) := by decide +kernel
theorem dX9_more_1 : decode cX9_more 1 = .ok (.iconst 0, 1) := by decide +kernel
theorem dX9_more_2 : decode cX9_more 2 = .ok (.putfield 71, 3) := by decide +kernel
theorem dX9_more_5 : decode cX9_more 5 = .ok (.aload_n 0, 1) := by decide +kernel
theorem dX9_more_6 : decode cX9_more 6 = .ok (.iload_n 1, 1) := by decide +kernel
theorem dX9_more_7 : decode cX9_more 7 = .ok (.invokevirtual 382, 3) := by decide +kernel
theorem dX9_more_10 : decode cX9_more 10 = .ok (.ifCond .eq 27, 3) := by decide +kernel
theorem dX9_more_13 : decode cX9_more 13 = .ok (.aload_n 0, 1) := by decide +kernel
theorem dX9_more_14 : decode cX9_more 14 = .ok (.getfield 53, 3) := by decide +kernel
theorem dX9_more_17 : decode cX9_more 17 = .ok (.iload_n 1, 1) := by decide +kernel
theorem dX9_more_18 : decode cX9_more 18 = .ok (.iaload, 1) := by decide +kernel
theorem dX9_more_19 : decode cX9_more 19 = .ok (.ifCond .le 18, 3) := by decide +kernel
theorem dX9_more_22 : decode cX9_more 22 = .ok (.aload_n 0, 1) := by decide +kernel
theorem dX9_more_23 : decode cX9_more 23 = .ok (.iload_n 1, 1) := by decide +kernel
theorem dX9_more_24 : decode cX9_more 24 = .ok (.aload_n 0, 1) := by decide +kernel
theorem dX9_more_25 : decode cX9_more 25 = .ok (.getfield 34, 3) := by decide +kernel
theorem dX9_more_28 : decode cX9_more 28 = .ok (.bipush 7, 2) := by decide +kernel
theorem dX9_more_30 : decode cX9_more 30 = .ok (.iaload, 1) := by decide +kernel
theorem dX9_more_31 : decode cX9_more 31 = .ok (.invokevirtual 389, 3) := by decide +kernel
theorem dX9_more_34 : decode cX9_more 34 = .ok (.goto 5, 3) := by decide +kernel
theorem dX9_more_37 : decode cX9_more 37 = .ok (.bipush (-2), 2) := by decide +kernel
theorem dX9_more_39 : decode cX9_more 39 = .ok (.ireturn, 1) := by decide +kernel
theorem dX9_enough_0 : decode cX9_enough 0 = .ok (.aload_n 0, 1) := by decide +kernel
theorem dX9_enough_1 : decode cX9_enough 1 = .ok (.iconst 0, 1) := by decide +kernel
theorem dX9_enough_2 : decode cX9_enough 2 = .ok (.putfield 71, 3) := by decide +kernel
theorem dX9_enough_5 : decode cX9_enough 5 = .ok (.aload_n 0, 1) := by decide +kernel
theorem dX9_enough_6 : decode cX9_enough 6 = .ok (.iload_n 1, 1) := by decide +kernel
theorem dX9_enough_7 : decode cX9_enough 7 = .ok (.invokevirtual 382, 3) := by decide +kernel
theorem dX9_enough_10 : decode cX9_enough 10 = .ok (.ifCond .eq 12, 3) := by decide +kernel
theorem dX9_enough_13 : decode cX9_enough 13 = .ok (.aload_n 0, 1) := by decide +kernel
theorem dX9_enough_14 : decode cX9_enough 14 = .ok (.getfield 53, 3) := by decide +kernel
theorem dX9_enough_17 : decode cX9_enough 17 = .ok (.iload_n 1, 1) := by decide +kernel
theorem dX9_enough_18 : decode cX9_enough 18 = .ok (.iaload, 1) := by decide +kernel
theorem dX9_enough_19 : decode cX9_enough 19 = .ok (.ifCond .gt 6, 3) := by decide +kernel
theorem dX9_enough_22 : decode cX9_enough 22 = .ok (.bipush (-2), 2) := by decide +kernel
theorem dX9_enough_24 : decode cX9_enough 24 = .ok (.ireturn, 1) := by decide +kernel
theorem dX9_enough_25 : decode cX9_enough 25 = .ok (.iconst 0, 1) := by decide +kernel
theorem dX9_enough_26 : decode cX9_enough 26 = .ok (.istore_n 2, 1) := by decide +kernel
theorem dX9_enough_27 : decode cX9_enough 27 = .ok (.iload_n 2, 1) := by decide +kernel
theorem dX9_enough_28 : decode cX9_enough 28 = .ok (.bipush 100, 2) := by decide +kernel
theorem dX9_enough_30 : decode cX9_enough 30 = .ok (.if_icmp .gt 20, 3) := by decide +kernel
theorem dX9_enough_33 : decode cX9_enough 33 = .ok (.aload_n 0, 1) := by decide +kernel
theorem dX9_enough_34 : decode cX9_enough 34 = .ok (.iload_n 1, 1) := by decide +kernel
theorem dX9_enough_35 : decode cX9_enough 35 = .ok (.iload_n 2, 1) := by decide +kernel
theorem dX9_enough_36 : decode cX9_enough 36 = .ok (.invokevirtual 389, 3) := by decide +kernel
theorem dX9_enough_39 : decode cX9_enough 39 = .ok (.ifCond .lt 5, 3) := by decide +kernel
theorem dX9_enough_42 : decode cX9_enough 42 = .ok (.iload_n 2, 1) := by decide +kernel
theorem dX9_enough_43 : decode cX9_enough 43 = .ok (.ireturn, 1) := by decide +kernel
theorem dX9_enough_44 : decode cX9_enough 44 = .ok (.iinc 2 1, 3) := by decide +kernel
theorem dX9_enough_47 : decode cX9_enough 47 = .ok (.goto (-20), 3) := by decide +kernel
theorem dX9_enough_50 : decode cX9_enough 50 = .ok (.iconst (-1), 1) := by decide +kernel
theorem dX9_enough_51 : decode cX9_enough 51 = .ok (.ireturn, 1) := by decide +kernel
theorem dX9_whyNotCrowd_0 : decode cX9_whyNotCrowd 0 = .ok (.iload_n 1, 1) := by decide +kernel
theorem dX9_whyNotCrowd_1 : decode cX9_whyNotCrowd 1 = .ok (.invokestatic 80, 3) := by decide +kernel
theorem dX9_whyNotCrowd_4 : decode cX9_whyNotCrowd 4 = .ok (.ifCond .eq 27, 3) := by decide +kernel
theorem dX9_whyNotCrowd_7 : decode cX9_whyNotCrowd 7 = .ok (.iload_n 3, 1) := by decide +kernel
theorem dX9_whyNotCrowd_8 : decode cX9_whyNotCrowd 8 = .ok (.invokestatic 260, 3) := by decide +kernel
theorem dX9_whyNotCrowd_11 : decode cX9_whyNotCrowd 11 = .ok (.ifCond .eq 20, 3) := by decide +kernel
theorem dX9_whyNotCrowd_14 : decode cX9_whyNotCrowd 14 = .ok (.aload_n 0, 1) := by decide +kernel
theorem dX9_whyNotCrowd_15 : decode cX9_whyNotCrowd 15 = .ok (.iload_n 2, 1) := by decide +kernel
theorem dX9_whyNotCrowd_16 : decode cX9_whyNotCrowd 16 = .ok (.invokevirtual 382, 3) := by decide +kernel
theorem dX9_whyNotCrowd_19 : decode cX9_whyNotCrowd 19 = .ok (.ifCond .eq 12, 3) := by decide +kernel
theorem dX9_whyNotCrowd_22 : decode cX9_whyNotCrowd 22 = .ok (.aload_n 0, 1) := by decide +kernel
theorem dX9_whyNotCrowd_23 : decode cX9_whyNotCrowd 23 = .ok (.getfield 53, 3) := by decide +kernel
theorem dX9_whyNotCrowd_26 : decode cX9_whyNotCrowd 26 = .ok (.iload_n 2, 1) := by decide +kernel
theorem dX9_whyNotCrowd_27 : decode cX9_whyNotCrowd 27 = .ok (.iaload, 1) := by decide +kernel
theorem dX9_whyNotCrowd_28 : decode cX9_whyNotCrowd 28 = .ok (.ifCond .gt 6, 3) := by decide +kernel
theorem dX9_whyNotCrowd_31 : decode cX9_whyNotCrowd 31 = .ok (.bipush (-2), 2) := by decide +kernel
theorem dX9_whyNotCrowd_33 : decode cX9_whyNotCrowd 33 = .ok (.ireturn, 1) := by decide +kernel
theorem dX9_whyNotCrowd_34 : decode cX9_whyNotCrowd 34 = .ok (.aload_n 0, 1) := by decide +kernel
theorem dX9_whyNotCrowd_35 : decode cX9_whyNotCrowd 35 = .ok (.getfield 7, 3) := by decide +kernel
theorem dX9_whyNotCrowd_38 : decode cX9_whyNotCrowd 38 = .ok (.iload_n 1, 1) := by decide +kernel
theorem dX9_whyNotCrowd_39 : decode cX9_whyNotCrowd 39 = .ok (.iaload, 1) := by decide +kernel
theorem dX9_whyNotCrowd_40 : decode cX9_whyNotCrowd 40 = .ok (.iconst (-1), 1) := by decide +kernel
theorem dX9_whyNotCrowd_41 : decode cX9_whyNotCrowd 41 = .ok (.if_icmp .ne 6, 3) := by decide +kernel
theorem dX9_whyNotCrowd_44 : decode cX9_whyNotCrowd 44 = .ok (.bipush (-6), 2) := by decide +kernel
theorem dX9_whyNotCrowd_46 : decode cX9_whyNotCrowd 46 = .ok (.ireturn, 1) := by decide +kernel
theorem dX9_whyNotCrowd_47 : decode cX9_whyNotCrowd 47 = .ok (.iconst 0, 1) := by decide +kernel
theorem dX9_whyNotCrowd_48 : decode cX9_whyNotCrowd 48 = .ok (.istore 4, 2) := by decide +kernel
theorem dX9_whyNotCrowd_50 : decode cX9_whyNotCrowd 50 = .ok (.iload 4, 2) := by decide +kernel
theorem dX9_whyNotCrowd_52 : decode cX9_whyNotCrowd 52 = .ok (.aload_n 0, 1) := by decide +kernel
theorem dX9_whyNotCrowd_53 : decode cX9_whyNotCrowd 53 = .ok (.getfield 13, 3) := by decide +kernel
theorem dX9_whyNotCrowd_56 : decode cX9_whyNotCrowd 56 = .ok (.iload_n 1, 1) := by decide +kernel
theorem dX9_whyNotCrowd_57 : decode cX9_whyNotCrowd 57 = .ok (.iaload, 1) := by decide +kernel
theorem dX9_whyNotCrowd_58 : decode cX9_whyNotCrowd 58 = .ok (.if_icmp .ge 34, 3) := by decide +kernel
theorem dX9_whyNotCrowd_61 : decode cX9_whyNotCrowd 61 = .ok (.aload_n 0, 1) := by decide +kernel
theorem dX9_whyNotCrowd_62 : decode cX9_whyNotCrowd 62 = .ok (.getfield 16, 3) := by decide +kernel
theorem dX9_whyNotCrowd_65 : decode cX9_whyNotCrowd 65 = .ok (.bipush 60, 2) := by decide +kernel
theorem dX9_whyNotCrowd_67 : decode cX9_whyNotCrowd 67 = .ok (.iload_n 1, 1) := by decide +kernel
theorem dX9_whyNotCrowd_68 : decode cX9_whyNotCrowd 68 = .ok (.imul, 1) := by decide +kernel
theorem dX9_whyNotCrowd_69 : decode cX9_whyNotCrowd 69 = .ok (.iload 4, 2) := by decide +kernel
theorem dX9_whyNotCrowd_71 : decode cX9_whyNotCrowd 71 = .ok (.iadd, 1) := by decide +kernel
theorem dX9_whyNotCrowd_72 : decode cX9_whyNotCrowd 72 = .ok (.laload, 1) := by decide +kernel
theorem dX9_whyNotCrowd_73 : decode cX9_whyNotCrowd 73 = .ok (.lconst 0, 1) := by decide +kernel
theorem dX9_whyNotCrowd_74 : decode cX9_whyNotCrowd 74 = .ok (.ldc2_w 392, 3) := by decide +kernel
theorem dX9_whyNotCrowd_77 : decode cX9_whyNotCrowd 77 = .ok (.invokestatic 76, 3) := by decide +kernel
theorem dX9_whyNotCrowd_80 : decode cX9_whyNotCrowd 80 = .ok (.ifCond .ne 6, 3) := by decide +kernel
theorem dX9_whyNotCrowd_83 : decode cX9_whyNotCrowd 83 = .ok (.bipush (-2), 2) := by decide +kernel
theorem dX9_whyNotCrowd_85 : decode cX9_whyNotCrowd 85 = .ok (.ireturn, 1) := by decide +kernel
theorem dX9_whyNotCrowd_86 : decode cX9_whyNotCrowd 86 = .ok (.iinc 4 1, 3) := by decide +kernel
theorem dX9_whyNotCrowd_89 : decode cX9_whyNotCrowd 89 = .ok (.goto (-39), 3) := by decide +kernel
theorem dX9_whyNotCrowd_92 : decode cX9_whyNotCrowd 92 = .ok (.iconst 0, 1) := by decide +kernel
theorem dX9_whyNotCrowd_93 : decode cX9_whyNotCrowd 93 = .ok (.ireturn, 1) := by decide +kernel
theorem dX9_flowOf_0 : decode cX9_flowOf 0 = .ok (.aload_n 0, 1) := by decide +kernel
theorem dX9_flowOf_1 : decode cX9_flowOf 1 = .ok (.iload_n 1, 1) := by decide +kernel
theorem dX9_flowOf_2 : decode cX9_flowOf 2 = .ok (.iload_n 2, 1) := by decide +kernel
theorem dX9_flowOf_3 : decode cX9_flowOf 3 = .ok (.aload_n 0, 1) := by decide +kernel
theorem dX9_flowOf_4 : decode cX9_flowOf 4 = .ok (.getfield 34, 3) := by decide +kernel
theorem dX9_flowOf_7 : decode cX9_flowOf 7 = .ok (.bipush 7, 2) := by decide +kernel
theorem dX9_flowOf_9 : decode cX9_flowOf 9 = .ok (.iaload, 1) := by decide +kernel
theorem dX9_flowOf_10 : decode cX9_flowOf 10 = .ok (.invokevirtual 385, 3) := by decide +kernel
theorem dX9_flowOf_13 : decode cX9_flowOf 13 = .ok (.aload_n 0, 1) := by decide +kernel
theorem dX9_flowOf_14 : decode cX9_flowOf 14 = .ok (.getfield 246, 3) := by decide +kernel
theorem dX9_flowOf_17 : decode cX9_flowOf 17 = .ok (.aload_n 0, 1) := by decide +kernel
theorem dX9_flowOf_18 : decode cX9_flowOf 18 = .ok (.getfield 243, 3) := by decide +kernel
theorem dX9_flowOf_21 : decode cX9_flowOf 21 = .ok (.ldiv, 1) := by decide +kernel
theorem dX9_flowOf_22 : decode cX9_flowOf 22 = .ok (.lreturn, 1) := by decide +kernel
theorem dX9_waits_0 : decode cX9_waits 0 = .ok (.lconst 0, 1) := by decide +kernel
theorem dX9_waits_1 : decode cX9_waits 1 = .ok (.lstore 4, 2) := by decide +kernel
theorem dX9_waits_3 : decode cX9_waits 3 = .ok (.lconst 0, 1) := by decide +kernel
theorem dX9_waits_4 : decode cX9_waits 4 = .ok (.lstore 6, 2) := by decide +kernel
theorem dX9_waits_6 : decode cX9_waits 6 = .ok (.aload_n 0, 1) := by decide +kernel
theorem dX9_waits_7 : decode cX9_waits 7 = .ok (.iconst 0, 1) := by decide +kernel
theorem dX9_waits_8 : decode cX9_waits 8 = .ok (.putfield 394, 3) := by decide +kernel
theorem dX9_waits_11 : decode cX9_waits 11 = .ok (.iconst 0, 1) := by decide +kernel
theorem dX9_waits_12 : decode cX9_waits 12 = .ok (.istore 8, 2) := by decide +kernel
theorem dX9_waits_14 : decode cX9_waits 14 = .ok (.iload 8, 2) := by decide +kernel
theorem dX9_waits_16 : decode cX9_waits 16 = .ok (.aload_n 0, 1) := by decide +kernel
theorem dX9_waits_17 : decode cX9_waits 17 = .ok (.getfield 13, 3) := by decide +kernel
theorem dX9_waits_20 : decode cX9_waits 20 = .ok (.iload_n 1, 1) := by decide +kernel
theorem dX9_waits_21 : decode cX9_waits 21 = .ok (.iaload, 1) := by decide +kernel
theorem dX9_waits_22 : decode cX9_waits 22 = .ok (.if_icmp .lt 10, 3) := by decide +kernel
theorem dX9_waits_25 : decode cX9_waits 25 = .ok (.lload 4, 2) := by decide +kernel
theorem dX9_waits_27 : decode cX9_waits 27 = .ok (.lconst 0, 1) := by decide +kernel
theorem dX9_waits_28 : decode cX9_waits 28 = .ok (.lcmp, 1) := by decide +kernel
theorem dX9_waits_29 : decode cX9_waits 29 = .ok (.ifCond .le 108, 3) := by decide +kernel
theorem dX9_waits_32 : decode cX9_waits 32 = .ok (.lload 4, 2) := by decide +kernel
theorem dX9_waits_34 : decode cX9_waits 34 = .ok (.iload 8, 2) := by decide +kernel
theorem dX9_waits_36 : decode cX9_waits 36 = .ok (.aload_n 0, 1) := by decide +kernel
theorem dX9_waits_37 : decode cX9_waits 37 = .ok (.getfield 13, 3) := by decide +kernel
theorem dX9_waits_40 : decode cX9_waits 40 = .ok (.iload_n 1, 1) := by decide +kernel
theorem dX9_waits_41 : decode cX9_waits 41 = .ok (.iaload, 1) := by decide +kernel
theorem dX9_waits_42 : decode cX9_waits 42 = .ok (.if_icmp .ge 18, 3) := by decide +kernel
theorem dX9_waits_45 : decode cX9_waits 45 = .ok (.aload_n 0, 1) := by decide +kernel
theorem dX9_waits_46 : decode cX9_waits 46 = .ok (.getfield 16, 3) := by decide +kernel
theorem dX9_waits_49 : decode cX9_waits 49 = .ok (.bipush 60, 2) := by decide +kernel
theorem dX9_waits_51 : decode cX9_waits 51 = .ok (.iload_n 1, 1) := by decide +kernel
theorem dX9_waits_52 : decode cX9_waits 52 = .ok (.imul, 1) := by decide +kernel
theorem dX9_waits_53 : decode cX9_waits 53 = .ok (.iload 8, 2) := by decide +kernel
theorem dX9_waits_55 : decode cX9_waits 55 = .ok (.iadd, 1) := by decide +kernel
theorem dX9_waits_56 : decode cX9_waits 56 = .ok (.laload, 1) := by decide +kernel
theorem dX9_waits_57 : decode cX9_waits 57 = .ok (.goto 4, 3) := by decide +kernel
theorem dX9_waits_60 : decode cX9_waits 60 = .ok (.lconst 0, 1) := by decide +kernel
theorem dX9_waits_61 : decode cX9_waits 61 = .ok (.ladd, 1) := by decide +kernel
theorem dX9_waits_62 : decode cX9_waits 62 = .ok (.lstore 4, 2) := by decide +kernel
theorem dX9_waits_64 : decode cX9_waits 64 = .ok (.lload 4, 2) := by decide +kernel
theorem dX9_waits_66 : decode cX9_waits 66 = .ok (.lload_n 2, 1) := by decide +kernel
theorem dX9_waits_67 : decode cX9_waits 67 = .ok (.lcmp, 1) := by decide +kernel
theorem dX9_waits_68 : decode cX9_waits 68 = .ok (.ifCond .le 10, 3) := by decide +kernel
theorem dX9_waits_71 : decode cX9_waits 71 = .ok (.lload 4, 2) := by decide +kernel
theorem dX9_waits_73 : decode cX9_waits 73 = .ok (.lload_n 2, 1) := by decide +kernel
theorem dX9_waits_74 : decode cX9_waits 74 = .ok (.lsub, 1) := by decide +kernel
theorem dX9_waits_75 : decode cX9_waits 75 = .ok (.goto 4, 3) := by decide +kernel
theorem dX9_waits_78 : decode cX9_waits 78 = .ok (.lconst 0, 1) := by decide +kernel
theorem dX9_waits_79 : decode cX9_waits 79 = .ok (.lstore 4, 2) := by decide +kernel
theorem dX9_waits_81 : decode cX9_waits 81 = .ok (.lload 4, 2) := by decide +kernel
theorem dX9_waits_83 : decode cX9_waits 83 = .ok (.lconst 0, 1) := by decide +kernel
theorem dX9_waits_84 : decode cX9_waits 84 = .ok (.lcmp, 1) := by decide +kernel
theorem dX9_waits_85 : decode cX9_waits 85 = .ok (.ifCond .le 11, 3) := by decide +kernel
theorem dX9_waits_88 : decode cX9_waits 88 = .ok (.aload_n 0, 1) := by decide +kernel
theorem dX9_waits_89 : decode cX9_waits 89 = .ok (.iload 8, 2) := by decide +kernel
theorem dX9_waits_91 : decode cX9_waits 91 = .ok (.iconst 2, 1) := by decide +kernel
theorem dX9_waits_92 : decode cX9_waits 92 = .ok (.iadd, 1) := by decide +kernel
theorem dX9_waits_93 : decode cX9_waits 93 = .ok (.putfield 394, 3) := by decide +kernel
theorem dX9_waits_96 : decode cX9_waits 96 = .ok (.lload 4, 2) := by decide +kernel
theorem dX9_waits_98 : decode cX9_waits 98 = .ok (.lconst 0, 1) := by decide +kernel
theorem dX9_waits_99 : decode cX9_waits 99 = .ok (.lcmp, 1) := by decide +kernel
theorem dX9_waits_100 : decode cX9_waits 100 = .ok (.ifCond .le 24, 3) := by decide +kernel
theorem dX9_waits_103 : decode cX9_waits 103 = .ok (.iload 8, 2) := by decide +kernel
theorem dX9_waits_105 : decode cX9_waits 105 = .ok (.aload_n 0, 1) := by decide +kernel
theorem dX9_waits_106 : decode cX9_waits 106 = .ok (.getfield 13, 3) := by decide +kernel
theorem dX9_waits_109 : decode cX9_waits 109 = .ok (.iload_n 1, 1) := by decide +kernel
theorem dX9_waits_110 : decode cX9_waits 110 = .ok (.iaload, 1) := by decide +kernel
theorem dX9_waits_111 : decode cX9_waits 111 = .ok (.if_icmp .lt 13, 3) := by decide +kernel
theorem dX9_waits_114 : decode cX9_waits 114 = .ok (.lload_n 2, 1) := by decide +kernel
theorem dX9_waits_115 : decode cX9_waits 115 = .ok (.lconst 0, 1) := by decide +kernel
theorem dX9_waits_116 : decode cX9_waits 116 = .ok (.lcmp, 1) := by decide +kernel
theorem dX9_waits_117 : decode cX9_waits 117 = .ok (.ifCond .ne 7, 3) := by decide +kernel
theorem dX9_waits_120 : decode cX9_waits 120 = .ok (.ldc2_w 115, 3) := by decide +kernel
theorem dX9_waits_123 : decode cX9_waits 123 = .ok (.lreturn, 1) := by decide +kernel
theorem dX9_waits_124 : decode cX9_waits 124 = .ok (.lload 6, 2) := by decide +kernel
theorem dX9_waits_126 : decode cX9_waits 126 = .ok (.lload 4, 2) := by decide +kernel
theorem dX9_waits_128 : decode cX9_waits 128 = .ok (.ladd, 1) := by decide +kernel
theorem dX9_waits_129 : decode cX9_waits 129 = .ok (.lstore 6, 2) := by decide +kernel
theorem dX9_waits_131 : decode cX9_waits 131 = .ok (.iinc 8 1, 3) := by decide +kernel
theorem dX9_waits_134 : decode cX9_waits 134 = .ok (.goto (-120), 3) := by decide +kernel
theorem dX9_waits_137 : decode cX9_waits 137 = .ok (.lload 6, 2) := by decide +kernel
theorem dX9_waits_139 : decode cX9_waits 139 = .ok (.lreturn, 1) := by decide +kernel
theorem dX9_crowd_0 : decode cX9_crowd 0 = .ok (.aload_n 0, 1) := by decide +kernel
theorem dX9_crowd_1 : decode cX9_crowd 1 = .ok (.iconst 0, 1) := by decide +kernel
theorem dX9_crowd_2 : decode cX9_crowd 2 = .ok (.putfield 71, 3) := by decide +kernel
theorem dX9_crowd_5 : decode cX9_crowd 5 = .ok (.aload_n 0, 1) := by decide +kernel
theorem dX9_crowd_6 : decode cX9_crowd 6 = .ok (.iload_n 1, 1) := by decide +kernel
theorem dX9_crowd_7 : decode cX9_crowd 7 = .ok (.iload_n 2, 1) := by decide +kernel
theorem dX9_crowd_8 : decode cX9_crowd 8 = .ok (.iload_n 3, 1) := by decide +kernel
theorem dX9_crowd_9 : decode cX9_crowd 9 = .ok (.invokevirtual 397, 3) := by decide +kernel
theorem dX9_crowd_12 : decode cX9_crowd 12 = .ok (.istore 4, 2) := by decide +kernel
theorem dX9_crowd_14 : decode cX9_crowd 14 = .ok (.iload 4, 2) := by decide +kernel
theorem dX9_crowd_16 : decode cX9_crowd 16 = .ok (.ifCond .eq 7, 3) := by decide +kernel
theorem dX9_crowd_19 : decode cX9_crowd 19 = .ok (.iload 4, 2) := by decide +kernel
theorem dX9_crowd_21 : decode cX9_crowd 21 = .ok (.i2l, 1) := by decide +kernel
theorem dX9_crowd_22 : decode cX9_crowd 22 = .ok (.lreturn, 1) := by decide +kernel
theorem dX9_crowd_23 : decode cX9_crowd 23 = .ok (.aload_n 0, 1) := by decide +kernel
theorem dX9_crowd_24 : decode cX9_crowd 24 = .ok (.iload_n 2, 1) := by decide +kernel
theorem dX9_crowd_25 : decode cX9_crowd 25 = .ok (.iload_n 3, 1) := by decide +kernel
theorem dX9_crowd_26 : decode cX9_crowd 26 = .ok (.invokevirtual 400, 3) := by decide +kernel
theorem dX9_crowd_29 : decode cX9_crowd 29 = .ok (.lstore 5, 2) := by decide +kernel
theorem dX9_crowd_31 : decode cX9_crowd 31 = .ok (.aload_n 0, 1) := by decide +kernel
theorem dX9_crowd_32 : decode cX9_crowd 32 = .ok (.iload_n 1, 1) := by decide +kernel
theorem dX9_crowd_33 : decode cX9_crowd 33 = .ok (.lload 5, 2) := by decide +kernel
theorem dX9_crowd_35 : decode cX9_crowd 35 = .ok (.invokevirtual 404, 3) := by decide +kernel
theorem dX9_crowd_38 : decode cX9_crowd 38 = .ok (.lreturn, 1) := by decide +kernel
theorem dX9_clears_0 : decode cX9_clears 0 = .ok (.aload_n 0, 1) := by decide +kernel
theorem dX9_clears_1 : decode cX9_clears 1 = .ok (.iconst 0, 1) := by decide +kernel
theorem dX9_clears_2 : decode cX9_clears 2 = .ok (.putfield 71, 3) := by decide +kernel
theorem dX9_clears_5 : decode cX9_clears 5 = .ok (.aload_n 0, 1) := by decide +kernel
theorem dX9_clears_6 : decode cX9_clears 6 = .ok (.iload_n 1, 1) := by decide +kernel
theorem dX9_clears_7 : decode cX9_clears 7 = .ok (.iload_n 2, 1) := by decide +kernel
theorem dX9_clears_8 : decode cX9_clears 8 = .ok (.iload_n 3, 1) := by decide +kernel
theorem dX9_clears_9 : decode cX9_clears 9 = .ok (.invokevirtual 397, 3) := by decide +kernel
theorem dX9_clears_12 : decode cX9_clears 12 = .ok (.istore 4, 2) := by decide +kernel
theorem dX9_clears_14 : decode cX9_clears 14 = .ok (.iload 4, 2) := by decide +kernel
theorem dX9_clears_16 : decode cX9_clears 16 = .ok (.ifCond .eq 6, 3) := by decide +kernel
theorem dX9_clears_19 : decode cX9_clears 19 = .ok (.iload 4, 2) := by decide +kernel
theorem dX9_clears_21 : decode cX9_clears 21 = .ok (.ireturn, 1) := by decide +kernel
theorem dX9_clears_22 : decode cX9_clears 22 = .ok (.aload_n 0, 1) := by decide +kernel
theorem dX9_clears_23 : decode cX9_clears 23 = .ok (.iload_n 2, 1) := by decide +kernel
theorem dX9_clears_24 : decode cX9_clears 24 = .ok (.iload_n 3, 1) := by decide +kernel
theorem dX9_clears_25 : decode cX9_clears 25 = .ok (.invokevirtual 400, 3) := by decide +kernel
theorem dX9_clears_28 : decode cX9_clears 28 = .ok (.lstore 5, 2) := by decide +kernel
theorem dX9_clears_30 : decode cX9_clears 30 = .ok (.aload_n 0, 1) := by decide +kernel
theorem dX9_clears_31 : decode cX9_clears 31 = .ok (.iload_n 1, 1) := by decide +kernel
theorem dX9_clears_32 : decode cX9_clears 32 = .ok (.lload 5, 2) := by decide +kernel
theorem dX9_clears_34 : decode cX9_clears 34 = .ok (.invokevirtual 404, 3) := by decide +kernel
theorem dX9_clears_37 : decode cX9_clears 37 = .ok (.ldc2_w 115, 3) := by decide +kernel
theorem dX9_clears_40 : decode cX9_clears 40 = .ok (.lcmp, 1) := by decide +kernel
theorem dX9_clears_41 : decode cX9_clears 41 = .ok (.ifCond .ne 7, 3) := by decide +kernel
theorem dX9_clears_44 : decode cX9_clears 44 = .ok (.iconst (-1), 1) := by decide +kernel
theorem dX9_clears_45 : decode cX9_clears 45 = .ok (.goto 7, 3) := by decide +kernel
theorem dX9_clears_48 : decode cX9_clears 48 = .ok (.aload_n 0, 1) := by decide +kernel
theorem dX9_clears_49 : decode cX9_clears 49 = .ok (.getfield 394, 3) := by decide +kernel
theorem dX9_clears_52 : decode cX9_clears 52 = .ok (.ireturn, 1) := by decide +kernel
theorem dX9_whyNotSides_0 : decode cX9_whyNotSides 0 = .ok (.iload_n 1, 1) := by decide +kernel
theorem dX9_whyNotSides_1 : decode cX9_whyNotSides 1 = .ok (.invokestatic 80, 3) := by decide +kernel
theorem dX9_whyNotSides_4 : decode cX9_whyNotSides 4 = .ok (.ifCond .eq 32, 3) := by decide +kernel
theorem dX9_whyNotSides_7 : decode cX9_whyNotSides 7 = .ok (.iload_n 3, 1) := by decide +kernel
theorem dX9_whyNotSides_8 : decode cX9_whyNotSides 8 = .ok (.i2l, 1) := by decide +kernel
theorem dX9_whyNotSides_9 : decode cX9_whyNotSides 9 = .ok (.lconst 0, 1) := by decide +kernel
theorem dX9_whyNotSides_10 : decode cX9_whyNotSides 10 = .ok (.ldc2_w 74, 3) := by decide +kernel
theorem dX9_whyNotSides_13 : decode cX9_whyNotSides 13 = .ok (.invokestatic 76, 3) := by decide +kernel
theorem dX9_whyNotSides_16 : decode cX9_whyNotSides 16 = .ok (.ifCond .eq 20, 3) := by decide +kernel
theorem dX9_whyNotSides_19 : decode cX9_whyNotSides 19 = .ok (.aload_n 0, 1) := by decide +kernel
theorem dX9_whyNotSides_20 : decode cX9_whyNotSides 20 = .ok (.iload_n 2, 1) := by decide +kernel
theorem dX9_whyNotSides_21 : decode cX9_whyNotSides 21 = .ok (.invokevirtual 382, 3) := by decide +kernel
theorem dX9_whyNotSides_24 : decode cX9_whyNotSides 24 = .ok (.ifCond .eq 12, 3) := by decide +kernel
theorem dX9_whyNotSides_27 : decode cX9_whyNotSides 27 = .ok (.aload_n 0, 1) := by decide +kernel
theorem dX9_whyNotSides_28 : decode cX9_whyNotSides 28 = .ok (.getfield 53, 3) := by decide +kernel
theorem dX9_whyNotSides_31 : decode cX9_whyNotSides 31 = .ok (.iload_n 2, 1) := by decide +kernel
theorem dX9_whyNotSides_32 : decode cX9_whyNotSides 32 = .ok (.iaload, 1) := by decide +kernel
theorem dX9_whyNotSides_33 : decode cX9_whyNotSides 33 = .ok (.ifCond .gt 6, 3) := by decide +kernel
theorem dX9_whyNotSides_36 : decode cX9_whyNotSides 36 = .ok (.bipush (-2), 2) := by decide +kernel
theorem dX9_whyNotSides_38 : decode cX9_whyNotSides 38 = .ok (.ireturn, 1) := by decide +kernel
theorem dX9_whyNotSides_39 : decode cX9_whyNotSides 39 = .ok (.aload_n 0, 1) := by decide +kernel
theorem dX9_whyNotSides_40 : decode cX9_whyNotSides 40 = .ok (.getfield 7, 3) := by decide +kernel
theorem dX9_whyNotSides_43 : decode cX9_whyNotSides 43 = .ok (.iload_n 1, 1) := by decide +kernel
theorem dX9_whyNotSides_44 : decode cX9_whyNotSides 44 = .ok (.iaload, 1) := by decide +kernel
theorem dX9_whyNotSides_45 : decode cX9_whyNotSides 45 = .ok (.iconst (-1), 1) := by decide +kernel
theorem dX9_whyNotSides_46 : decode cX9_whyNotSides 46 = .ok (.if_icmp .ne 6, 3) := by decide +kernel
theorem dX9_whyNotSides_49 : decode cX9_whyNotSides 49 = .ok (.bipush (-6), 2) := by decide +kernel
theorem dX9_whyNotSides_51 : decode cX9_whyNotSides 51 = .ok (.ireturn, 1) := by decide +kernel
theorem dX9_whyNotSides_52 : decode cX9_whyNotSides 52 = .ok (.aload_n 0, 1) := by decide +kernel
theorem dX9_whyNotSides_53 : decode cX9_whyNotSides 53 = .ok (.getfield 13, 3) := by decide +kernel
theorem dX9_whyNotSides_56 : decode cX9_whyNotSides 56 = .ok (.iload_n 1, 1) := by decide +kernel
theorem dX9_whyNotSides_57 : decode cX9_whyNotSides 57 = .ok (.iaload, 1) := by decide +kernel
theorem dX9_whyNotSides_58 : decode cX9_whyNotSides 58 = .ok (.iconst 2, 1) := by decide +kernel
theorem dX9_whyNotSides_59 : decode cX9_whyNotSides 59 = .ok (.irem, 1) := by decide +kernel
theorem dX9_whyNotSides_60 : decode cX9_whyNotSides 60 = .ok (.ifCond .eq 6, 3) := by decide +kernel
theorem dX9_whyNotSides_63 : decode cX9_whyNotSides 63 = .ok (.bipush (-2), 2) := by decide +kernel
theorem dX9_whyNotSides_65 : decode cX9_whyNotSides 65 = .ok (.ireturn, 1) := by decide +kernel
theorem dX9_whyNotSides_66 : decode cX9_whyNotSides 66 = .ok (.iconst 0, 1) := by decide +kernel
theorem dX9_whyNotSides_67 : decode cX9_whyNotSides 67 = .ok (.istore 4, 2) := by decide +kernel
theorem dX9_whyNotSides_69 : decode cX9_whyNotSides 69 = .ok (.iload 4, 2) := by decide +kernel
theorem dX9_whyNotSides_71 : decode cX9_whyNotSides 71 = .ok (.aload_n 0, 1) := by decide +kernel
theorem dX9_whyNotSides_72 : decode cX9_whyNotSides 72 = .ok (.getfield 13, 3) := by decide +kernel
theorem dX9_whyNotSides_75 : decode cX9_whyNotSides 75 = .ok (.iload_n 1, 1) := by decide +kernel
theorem dX9_whyNotSides_76 : decode cX9_whyNotSides 76 = .ok (.iaload, 1) := by decide +kernel
theorem dX9_whyNotSides_77 : decode cX9_whyNotSides 77 = .ok (.if_icmp .ge 47, 3) := by decide +kernel
theorem dX9_whyNotSides_80 : decode cX9_whyNotSides 80 = .ok (.aload_n 0, 1) := by decide +kernel
theorem dX9_whyNotSides_81 : decode cX9_whyNotSides 81 = .ok (.getfield 16, 3) := by decide +kernel
theorem dX9_whyNotSides_84 : decode cX9_whyNotSides 84 = .ok (.bipush 60, 2) := by decide +kernel
theorem dX9_whyNotSides_86 : decode cX9_whyNotSides 86 = .ok (.iload_n 1, 1) := by decide +kernel
theorem dX9_whyNotSides_87 : decode cX9_whyNotSides 87 = .ok (.imul, 1) := by decide +kernel
theorem dX9_whyNotSides_88 : decode cX9_whyNotSides 88 = .ok (.iload 4, 2) := by decide +kernel
theorem dX9_whyNotSides_90 : decode cX9_whyNotSides 90 = .ok (.iadd, 1) := by decide +kernel
theorem dX9_whyNotSides_91 : decode cX9_whyNotSides 91 = .ok (.laload, 1) := by decide +kernel
theorem dX9_whyNotSides_92 : decode cX9_whyNotSides 92 = .ok (.lconst 0, 1) := by decide +kernel
theorem dX9_whyNotSides_93 : decode cX9_whyNotSides 93 = .ok (.iload 4, 2) := by decide +kernel
theorem dX9_whyNotSides_95 : decode cX9_whyNotSides 95 = .ok (.iconst 2, 1) := by decide +kernel
theorem dX9_whyNotSides_96 : decode cX9_whyNotSides 96 = .ok (.irem, 1) := by decide +kernel
theorem dX9_whyNotSides_97 : decode cX9_whyNotSides 97 = .ok (.ifCond .ne 9, 3) := by decide +kernel
theorem dX9_whyNotSides_100 : decode cX9_whyNotSides 100 = .ok (.ldc2_w 392, 3) := by decide +kernel
theorem dX9_whyNotSides_103 : decode cX9_whyNotSides 103 = .ok (.goto 6, 3) := by decide +kernel
theorem dX9_whyNotSides_106 : decode cX9_whyNotSides 106 = .ok (.ldc2_w 380, 3) := by decide +kernel
theorem dX9_whyNotSides_109 : decode cX9_whyNotSides 109 = .ok (.invokestatic 76, 3) := by decide +kernel
theorem dX9_whyNotSides_112 : decode cX9_whyNotSides 112 = .ok (.ifCond .ne 6, 3) := by decide +kernel
theorem dX9_whyNotSides_115 : decode cX9_whyNotSides 115 = .ok (.bipush (-2), 2) := by decide +kernel
theorem dX9_whyNotSides_117 : decode cX9_whyNotSides 117 = .ok (.ireturn, 1) := by decide +kernel
theorem dX9_whyNotSides_118 : decode cX9_whyNotSides 118 = .ok (.iinc 4 1, 3) := by decide +kernel
theorem dX9_whyNotSides_121 : decode cX9_whyNotSides 121 = .ok (.goto (-52), 3) := by decide +kernel
theorem dX9_whyNotSides_124 : decode cX9_whyNotSides 124 = .ok (.iconst 0, 1) := by decide +kernel
theorem dX9_whyNotSides_125 : decode cX9_whyNotSides 125 = .ok (.ireturn, 1) := by decide +kernel
theorem dX9_tries_0 : decode cX9_tries 0 = .ok (.iconst 2, 1) := by decide +kernel
theorem dX9_tries_1 : decode cX9_tries 1 = .ok (.iload_n 2, 1) := by decide +kernel
theorem dX9_tries_2 : decode cX9_tries 2 = .ok (.imul, 1) := by decide +kernel
theorem dX9_tries_3 : decode cX9_tries 3 = .ok (.aload_n 0, 1) := by decide +kernel
theorem dX9_tries_4 : decode cX9_tries 4 = .ok (.getfield 13, 3) := by decide +kernel
theorem dX9_tries_7 : decode cX9_tries 7 = .ok (.iload_n 1, 1) := by decide +kernel
theorem dX9_tries_8 : decode cX9_tries 8 = .ok (.iaload, 1) := by decide +kernel
theorem dX9_tries_9 : decode cX9_tries 9 = .ok (.if_icmp .lt 27, 3) := by decide +kernel
theorem dX9_tries_12 : decode cX9_tries 12 = .ok (.aload_n 0, 1) := by decide +kernel
theorem dX9_tries_13 : decode cX9_tries 13 = .ok (.lload 7, 2) := by decide +kernel
theorem dX9_tries_15 : decode cX9_tries 15 = .ok (.aload_n 0, 1) := by decide +kernel
theorem dX9_tries_16 : decode cX9_tries 16 = .ok (.getfield 408, 3) := by decide +kernel
theorem dX9_tries_19 : decode cX9_tries 19 = .ok (.lcmp, 1) := by decide +kernel
theorem dX9_tries_20 : decode cX9_tries 20 = .ok (.ifCond .ge 8, 3) := by decide +kernel
theorem dX9_tries_23 : decode cX9_tries 23 = .ok (.lload 7, 2) := by decide +kernel
theorem dX9_tries_25 : decode cX9_tries 25 = .ok (.goto 7, 3) := by decide +kernel
theorem dX9_tries_28 : decode cX9_tries 28 = .ok (.aload_n 0, 1) := by decide +kernel
theorem dX9_tries_29 : decode cX9_tries 29 = .ok (.getfield 408, 3) := by decide +kernel
theorem dX9_tries_32 : decode cX9_tries 32 = .ok (.putfield 408, 3) := by decide +kernel
theorem dX9_tries_35 : decode cX9_tries 35 = .ok (.return_, 1) := by decide +kernel
theorem dX9_tries_36 : decode cX9_tries 36 = .ok (.lload 5, 2) := by decide +kernel
theorem dX9_tries_38 : decode cX9_tries 38 = .ok (.aload_n 0, 1) := by decide +kernel
theorem dX9_tries_39 : decode cX9_tries 39 = .ok (.getfield 16, 3) := by decide +kernel
theorem dX9_tries_42 : decode cX9_tries 42 = .ok (.bipush 60, 2) := by decide +kernel
theorem dX9_tries_44 : decode cX9_tries 44 = .ok (.iload_n 1, 1) := by decide +kernel
theorem dX9_tries_45 : decode cX9_tries 45 = .ok (.imul, 1) := by decide +kernel
theorem dX9_tries_46 : decode cX9_tries 46 = .ok (.iconst 2, 1) := by decide +kernel
theorem dX9_tries_47 : decode cX9_tries 47 = .ok (.iload_n 2, 1) := by decide +kernel
theorem dX9_tries_48 : decode cX9_tries 48 = .ok (.imul, 1) := by decide +kernel
theorem dX9_tries_49 : decode cX9_tries 49 = .ok (.iadd, 1) := by decide +kernel
theorem dX9_tries_50 : decode cX9_tries 50 = .ok (.laload, 1) := by decide +kernel
theorem dX9_tries_51 : decode cX9_tries 51 = .ok (.ladd, 1) := by decide +kernel
theorem dX9_tries_52 : decode cX9_tries 52 = .ok (.aload_n 0, 1) := by decide +kernel
theorem dX9_tries_53 : decode cX9_tries 53 = .ok (.getfield 65, 3) := by decide +kernel
theorem dX9_tries_56 : decode cX9_tries 56 = .ok (.iconst 2, 1) := by decide +kernel
theorem dX9_tries_57 : decode cX9_tries 57 = .ok (.iload_n 2, 1) := by decide +kernel
theorem dX9_tries_58 : decode cX9_tries 58 = .ok (.imul, 1) := by decide +kernel
theorem dX9_tries_59 : decode cX9_tries 59 = .ok (.iload_n 3, 1) := by decide +kernel
theorem dX9_tries_60 : decode cX9_tries 60 = .ok (.iadd, 1) := by decide +kernel
theorem dX9_tries_61 : decode cX9_tries 61 = .ok (.laload, 1) := by decide +kernel
theorem dX9_tries_62 : decode cX9_tries 62 = .ok (.lsub, 1) := by decide +kernel
theorem dX9_tries_63 : decode cX9_tries 63 = .ok (.lstore 9, 2) := by decide +kernel
theorem dX9_tries_65 : decode cX9_tries 65 = .ok (.lload 9, 2) := by decide +kernel
theorem dX9_tries_67 : decode cX9_tries 67 = .ok (.lconst 0, 1) := by decide +kernel
theorem dX9_tries_68 : decode cX9_tries 68 = .ok (.lcmp, 1) := by decide +kernel
theorem dX9_tries_69 : decode cX9_tries 69 = .ok (.ifCond .ge 7, 3) := by decide +kernel
theorem dX9_tries_72 : decode cX9_tries 72 = .ok (.lconst 0, 1) := by decide +kernel
theorem dX9_tries_73 : decode cX9_tries 73 = .ok (.goto 5, 3) := by decide +kernel
theorem dX9_tries_76 : decode cX9_tries 76 = .ok (.lload 9, 2) := by decide +kernel
theorem dX9_tries_78 : decode cX9_tries 78 = .ok (.lstore 9, 2) := by decide +kernel
theorem dX9_tries_80 : decode cX9_tries 80 = .ok (.aload_n 0, 1) := by decide +kernel
theorem dX9_tries_81 : decode cX9_tries 81 = .ok (.iload_n 1, 1) := by decide +kernel
theorem dX9_tries_82 : decode cX9_tries 82 = .ok (.iload_n 2, 1) := by decide +kernel
theorem dX9_tries_83 : decode cX9_tries 83 = .ok (.iconst 1, 1) := by decide +kernel
theorem dX9_tries_84 : decode cX9_tries 84 = .ok (.iadd, 1) := by decide +kernel
theorem dX9_tries_85 : decode cX9_tries 85 = .ok (.iload_n 3, 1) := by decide +kernel
theorem dX9_tries_86 : decode cX9_tries 86 = .ok (.iload 4, 2) := by decide +kernel
theorem dX9_tries_88 : decode cX9_tries 88 = .ok (.lload 9, 2) := by decide +kernel
theorem dX9_tries_90 : decode cX9_tries 90 = .ok (.lload 7, 2) := by decide +kernel
theorem dX9_tries_92 : decode cX9_tries 92 = .ok (.lload 9, 2) := by decide +kernel
theorem dX9_tries_94 : decode cX9_tries 94 = .ok (.ladd, 1) := by decide +kernel
theorem dX9_tries_95 : decode cX9_tries 95 = .ok (.invokevirtual 411, 3) := by decide +kernel
theorem dX9_tries_98 : decode cX9_tries 98 = .ok (.iload 4, 2) := by decide +kernel
theorem dX9_tries_100 : decode cX9_tries 100 = .ok (.ifCond .le 25, 3) := by decide +kernel
theorem dX9_tries_103 : decode cX9_tries 103 = .ok (.aload_n 0, 1) := by decide +kernel
theorem dX9_tries_104 : decode cX9_tries 104 = .ok (.iload_n 1, 1) := by decide +kernel
theorem dX9_tries_105 : decode cX9_tries 105 = .ok (.iload_n 2, 1) := by decide +kernel
theorem dX9_tries_106 : decode cX9_tries 106 = .ok (.iconst 1, 1) := by decide +kernel
theorem dX9_tries_107 : decode cX9_tries 107 = .ok (.iadd, 1) := by decide +kernel
theorem dX9_tries_108 : decode cX9_tries 108 = .ok (.iconst 1, 1) := by decide +kernel
theorem dX9_tries_109 : decode cX9_tries 109 = .ok (.iload_n 3, 1) := by decide +kernel
theorem dX9_tries_110 : decode cX9_tries 110 = .ok (.isub, 1) := by decide +kernel
theorem dX9_tries_111 : decode cX9_tries 111 = .ok (.iload 4, 2) := by decide +kernel
theorem dX9_tries_113 : decode cX9_tries 113 = .ok (.iconst 1, 1) := by decide +kernel
theorem dX9_tries_114 : decode cX9_tries 114 = .ok (.isub, 1) := by decide +kernel
theorem dX9_tries_115 : decode cX9_tries 115 = .ok (.lload 9, 2) := by decide +kernel
theorem dX9_tries_117 : decode cX9_tries 117 = .ok (.lload 7, 2) := by decide +kernel
theorem dX9_tries_119 : decode cX9_tries 119 = .ok (.lload 9, 2) := by decide +kernel
theorem dX9_tries_121 : decode cX9_tries 121 = .ok (.ladd, 1) := by decide +kernel
theorem dX9_tries_122 : decode cX9_tries 122 = .ok (.invokevirtual 411, 3) := by decide +kernel
theorem dX9_tries_125 : decode cX9_tries 125 = .ok (.return_, 1) := by decide +kernel
