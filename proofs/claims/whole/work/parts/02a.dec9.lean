/-! decode rows, printed -/
theorem dX9_init_0 : decode cX9_init 0 = .ok (.aload_n 0, 1) := by decide +kernel
theorem dX9_init_1 : decode cX9_init 1 = .ok (.invokespecial 1, 3) := by decide +kernel
theorem dX9_init_4 : decode cX9_init 4 = .ok (.aload_n 0, 1) := by decide +kernel
theorem dX9_init_5 : decode cX9_init 5 = .ok (.sipush 1000, 3) := by decide +kernel
theorem dX9_init_8 : decode cX9_init 8 = .ok (.newarray .long, 2) := by decide +kernel
theorem dX9_init_10 : decode cX9_init 10 = .ok (.putfield 7, 3) := by decide +kernel
theorem dX9_init_13 : decode cX9_init 13 = .ok (.aload_n 0, 1) := by decide +kernel
theorem dX9_init_14 : decode cX9_init 14 = .ok (.iconst 5, 1) := by decide +kernel
theorem dX9_init_15 : decode cX9_init 15 = .ok (.newarray .int, 2) := by decide +kernel
theorem dX9_init_17 : decode cX9_init 17 = .ok (.putfield 13, 3) := by decide +kernel
theorem dX9_init_20 : decode cX9_init 20 = .ok (.aload_n 0, 1) := by decide +kernel
theorem dX9_init_21 : decode cX9_init 21 = .ok (.sipush 1600, 3) := by decide +kernel
theorem dX9_init_24 : decode cX9_init 24 = .ok (.newarray .int, 2) := by decide +kernel
theorem dX9_init_26 : decode cX9_init 26 = .ok (.putfield 17, 3) := by decide +kernel
theorem dX9_init_29 : decode cX9_init 29 = .ok (.aload_n 0, 1) := by decide +kernel
theorem dX9_init_30 : decode cX9_init 30 = .ok (.bipush 40, 2) := by decide +kernel
theorem dX9_init_32 : decode cX9_init 32 = .ok (.newarray .boolean, 2) := by decide +kernel
theorem dX9_init_34 : decode cX9_init 34 = .ok (.putfield 20, 3) := by decide +kernel
theorem dX9_init_37 : decode cX9_init 37 = .ok (.iconst 0, 1) := by decide +kernel
theorem dX9_init_38 : decode cX9_init 38 = .ok (.istore_n 1, 1) := by decide +kernel
theorem dX9_init_39 : decode cX9_init 39 = .ok (.iload_n 1, 1) := by decide +kernel
theorem dX9_init_40 : decode cX9_init 40 = .ok (.iconst 5, 1) := by decide +kernel
theorem dX9_init_41 : decode cX9_init 41 = .ok (.if_icmp .ge 16, 3) := by decide +kernel
theorem dX9_init_44 : decode cX9_init 44 = .ok (.aload_n 0, 1) := by decide +kernel
theorem dX9_init_45 : decode cX9_init 45 = .ok (.getfield 13, 3) := by decide +kernel
theorem dX9_init_48 : decode cX9_init 48 = .ok (.iload_n 1, 1) := by decide +kernel
theorem dX9_init_49 : decode cX9_init 49 = .ok (.iconst (-1), 1) := by decide +kernel
theorem dX9_init_50 : decode cX9_init 50 = .ok (.iastore, 1) := by decide +kernel
theorem dX9_init_51 : decode cX9_init 51 = .ok (.iinc 1 1, 3) := by decide +kernel
theorem dX9_init_54 : decode cX9_init 54 = .ok (.goto (-15), 3) := by decide +kernel
theorem dX9_init_57 : decode cX9_init 57 = .ok (.return_, 1) := by decide +kernel
theorem dX9_rounded_0 : decode cX9_rounded 0 = .ok (.lload_n 0, 1) := by decide +kernel
theorem dX9_rounded_1 : decode cX9_rounded 1 = .ok (.lconst 0, 1) := by decide +kernel
theorem dX9_rounded_2 : decode cX9_rounded 2 = .ok (.lcmp, 1) := by decide +kernel
theorem dX9_rounded_3 : decode cX9_rounded 3 = .ok (.ifCond .ge 8, 3) := by decide +kernel
theorem dX9_rounded_6 : decode cX9_rounded 6 = .ok (.lload_n 0, 1) := by decide +kernel
theorem dX9_rounded_7 : decode cX9_rounded 7 = .ok (.lneg, 1) := by decide +kernel
theorem dX9_rounded_8 : decode cX9_rounded 8 = .ok (.goto 4, 3) := by decide +kernel
theorem dX9_rounded_11 : decode cX9_rounded 11 = .ok (.lload_n 0, 1) := by decide +kernel
theorem dX9_rounded_12 : decode cX9_rounded 12 = .ok (.lstore_n 2, 1) := by decide +kernel
theorem dX9_rounded_13 : decode cX9_rounded 13 = .ok (.lconst 1, 1) := by decide +kernel
theorem dX9_rounded_14 : decode cX9_rounded 14 = .ok (.lstore 4, 2) := by decide +kernel
theorem dX9_rounded_16 : decode cX9_rounded 16 = .ok (.lload_n 2, 1) := by decide +kernel
theorem dX9_rounded_17 : decode cX9_rounded 17 = .ok (.lload 4, 2) := by decide +kernel
theorem dX9_rounded_19 : decode cX9_rounded 19 = .ok (.ldiv, 1) := by decide +kernel
theorem dX9_rounded_20 : decode cX9_rounded 20 = .ok (.ldc2_w 24, 3) := by decide +kernel
theorem dX9_rounded_23 : decode cX9_rounded 23 = .ok (.lcmp, 1) := by decide +kernel
theorem dX9_rounded_24 : decode cX9_rounded 24 = .ok (.ifCond .lt 14, 3) := by decide +kernel
theorem dX9_rounded_27 : decode cX9_rounded 27 = .ok (.ldc2_w 26, 3) := by decide +kernel
theorem dX9_rounded_30 : decode cX9_rounded 30 = .ok (.lload 4, 2) := by decide +kernel
theorem dX9_rounded_32 : decode cX9_rounded 32 = .ok (.lmul, 1) := by decide +kernel
theorem dX9_rounded_33 : decode cX9_rounded 33 = .ok (.lstore 4, 2) := by decide +kernel
theorem dX9_rounded_35 : decode cX9_rounded 35 = .ok (.goto (-19), 3) := by decide +kernel
theorem dX9_rounded_38 : decode cX9_rounded 38 = .ok (.lload_n 2, 1) := by decide +kernel
theorem dX9_rounded_39 : decode cX9_rounded 39 = .ok (.lload 4, 2) := by decide +kernel
theorem dX9_rounded_41 : decode cX9_rounded 41 = .ok (.ldiv, 1) := by decide +kernel
theorem dX9_rounded_42 : decode cX9_rounded 42 = .ok (.lstore 6, 2) := by decide +kernel
theorem dX9_rounded_44 : decode cX9_rounded 44 = .ok (.lload_n 2, 1) := by decide +kernel
theorem dX9_rounded_45 : decode cX9_rounded 45 = .ok (.lload 6, 2) := by decide +kernel
theorem dX9_rounded_47 : decode cX9_rounded 47 = .ok (.lload 4, 2) := by decide +kernel
theorem dX9_rounded_49 : decode cX9_rounded 49 = .ok (.lmul, 1) := by decide +kernel
theorem dX9_rounded_50 : decode cX9_rounded 50 = .ok (.lsub, 1) := by decide +kernel
theorem dX9_rounded_51 : decode cX9_rounded 51 = .ok (.lstore 8, 2) := by decide +kernel
theorem dX9_rounded_53 : decode cX9_rounded 53 = .ok (.ldc2_w 26, 3) := by decide +kernel
theorem dX9_rounded_56 : decode cX9_rounded 56 = .ok (.lload 8, 2) := by decide +kernel
theorem dX9_rounded_58 : decode cX9_rounded 58 = .ok (.lmul, 1) := by decide +kernel
theorem dX9_rounded_59 : decode cX9_rounded 59 = .ok (.lload 4, 2) := by decide +kernel
theorem dX9_rounded_61 : decode cX9_rounded 61 = .ok (.lcmp, 1) := by decide +kernel
theorem dX9_rounded_62 : decode cX9_rounded 62 = .ok (.ifCond .gt 26, 3) := by decide +kernel
theorem dX9_rounded_65 : decode cX9_rounded 65 = .ok (.ldc2_w 26, 3) := by decide +kernel
theorem dX9_rounded_68 : decode cX9_rounded 68 = .ok (.lload 8, 2) := by decide +kernel
theorem dX9_rounded_70 : decode cX9_rounded 70 = .ok (.lmul, 1) := by decide +kernel
theorem dX9_rounded_71 : decode cX9_rounded 71 = .ok (.lload 4, 2) := by decide +kernel
theorem dX9_rounded_73 : decode cX9_rounded 73 = .ok (.lcmp, 1) := by decide +kernel
theorem dX9_rounded_74 : decode cX9_rounded 74 = .ok (.ifCond .ne 18, 3) := by decide +kernel
theorem dX9_rounded_77 : decode cX9_rounded 77 = .ok (.lload 6, 2) := by decide +kernel
theorem dX9_rounded_79 : decode cX9_rounded 79 = .ok (.ldc2_w 26, 3) := by decide +kernel
theorem dX9_rounded_82 : decode cX9_rounded 82 = .ok (.lrem, 1) := by decide +kernel
theorem dX9_rounded_83 : decode cX9_rounded 83 = .ok (.lconst 1, 1) := by decide +kernel
theorem dX9_rounded_84 : decode cX9_rounded 84 = .ok (.lcmp, 1) := by decide +kernel
theorem dX9_rounded_85 : decode cX9_rounded 85 = .ok (.ifCond .ne 7, 3) := by decide +kernel
theorem dX9_rounded_88 : decode cX9_rounded 88 = .ok (.iconst 1, 1) := by decide +kernel
theorem dX9_rounded_89 : decode cX9_rounded 89 = .ok (.goto 4, 3) := by decide +kernel
theorem dX9_rounded_92 : decode cX9_rounded 92 = .ok (.iconst 0, 1) := by decide +kernel
theorem dX9_rounded_93 : decode cX9_rounded 93 = .ok (.istore 10, 2) := by decide +kernel
theorem dX9_rounded_95 : decode cX9_rounded 95 = .ok (.iload 10, 2) := by decide +kernel
theorem dX9_rounded_97 : decode cX9_rounded 97 = .ok (.ifCond .eq 10, 3) := by decide +kernel
theorem dX9_rounded_100 : decode cX9_rounded 100 = .ok (.lload 6, 2) := by decide +kernel
theorem dX9_rounded_102 : decode cX9_rounded 102 = .ok (.lconst 1, 1) := by decide +kernel
theorem dX9_rounded_103 : decode cX9_rounded 103 = .ok (.ladd, 1) := by decide +kernel
theorem dX9_rounded_104 : decode cX9_rounded 104 = .ok (.goto 5, 3) := by decide +kernel
theorem dX9_rounded_107 : decode cX9_rounded 107 = .ok (.lload 6, 2) := by decide +kernel
theorem dX9_rounded_109 : decode cX9_rounded 109 = .ok (.lload 4, 2) := by decide +kernel
theorem dX9_rounded_111 : decode cX9_rounded 111 = .ok (.lmul, 1) := by decide +kernel
theorem dX9_rounded_112 : decode cX9_rounded 112 = .ok (.lstore 11, 2) := by decide +kernel
theorem dX9_rounded_114 : decode cX9_rounded 114 = .ok (.lload_n 0, 1) := by decide +kernel
theorem dX9_rounded_115 : decode cX9_rounded 115 = .ok (.lconst 0, 1) := by decide +kernel
theorem dX9_rounded_116 : decode cX9_rounded 116 = .ok (.lcmp, 1) := by decide +kernel
theorem dX9_rounded_117 : decode cX9_rounded 117 = .ok (.ifCond .ge 9, 3) := by decide +kernel
theorem dX9_rounded_120 : decode cX9_rounded 120 = .ok (.lload 11, 2) := by decide +kernel
theorem dX9_rounded_122 : decode cX9_rounded 122 = .ok (.lneg, 1) := by decide +kernel
theorem dX9_rounded_123 : decode cX9_rounded 123 = .ok (.goto 5, 3) := by decide +kernel
theorem dX9_rounded_126 : decode cX9_rounded 126 = .ok (.lload 11, 2) := by decide +kernel
theorem dX9_rounded_128 : decode cX9_rounded 128 = .ok (.lreturn, 1) := by decide +kernel
theorem dX9_lowest_0 : decode cX9_lowest 0 = .ok (.lload_n 0, 1) := by decide +kernel
theorem dX9_lowest_1 : decode cX9_lowest 1 = .ok (.lload_n 2, 1) := by decide +kernel
theorem dX9_lowest_2 : decode cX9_lowest 2 = .ok (.lrem, 1) := by decide +kernel
theorem dX9_lowest_3 : decode cX9_lowest 3 = .ok (.lstore 5, 2) := by decide +kernel
theorem dX9_lowest_5 : decode cX9_lowest 5 = .ok (.lload 5, 2) := by decide +kernel
theorem dX9_lowest_7 : decode cX9_lowest 7 = .ok (.lconst 0, 1) := by decide +kernel
theorem dX9_lowest_8 : decode cX9_lowest 8 = .ok (.lcmp, 1) := by decide +kernel
theorem dX9_lowest_9 : decode cX9_lowest 9 = .ok (.ifCond .ge 10, 3) := by decide +kernel
theorem dX9_lowest_12 : decode cX9_lowest 12 = .ok (.lload 5, 2) := by decide +kernel
theorem dX9_lowest_14 : decode cX9_lowest 14 = .ok (.lload_n 2, 1) := by decide +kernel
theorem dX9_lowest_15 : decode cX9_lowest 15 = .ok (.ladd, 1) := by decide +kernel
theorem dX9_lowest_16 : decode cX9_lowest 16 = .ok (.goto 5, 3) := by decide +kernel
theorem dX9_lowest_19 : decode cX9_lowest 19 = .ok (.lload 5, 2) := by decide +kernel
theorem dX9_lowest_21 : decode cX9_lowest 21 = .ok (.lstore 5, 2) := by decide +kernel
theorem dX9_lowest_23 : decode cX9_lowest 23 = .ok (.iload 4, 2) := by decide +kernel
theorem dX9_lowest_25 : decode cX9_lowest 25 = .ok (.ifCond .eq 21, 3) := by decide +kernel
theorem dX9_lowest_28 : decode cX9_lowest 28 = .ok (.lload 5, 2) := by decide +kernel
theorem dX9_lowest_30 : decode cX9_lowest 30 = .ok (.lload_n 2, 1) := by decide +kernel
theorem dX9_lowest_31 : decode cX9_lowest 31 = .ok (.ldc2_w 26, 3) := by decide +kernel
theorem dX9_lowest_34 : decode cX9_lowest 34 = .ok (.ldiv, 1) := by decide +kernel
theorem dX9_lowest_35 : decode cX9_lowest 35 = .ok (.lcmp, 1) := by decide +kernel
theorem dX9_lowest_36 : decode cX9_lowest 36 = .ok (.ifCond .lt 10, 3) := by decide +kernel
theorem dX9_lowest_39 : decode cX9_lowest 39 = .ok (.lload 5, 2) := by decide +kernel
theorem dX9_lowest_41 : decode cX9_lowest 41 = .ok (.lload_n 2, 1) := by decide +kernel
theorem dX9_lowest_42 : decode cX9_lowest 42 = .ok (.lsub, 1) := by decide +kernel
theorem dX9_lowest_43 : decode cX9_lowest 43 = .ok (.goto 5, 3) := by decide +kernel
theorem dX9_lowest_46 : decode cX9_lowest 46 = .ok (.lload 5, 2) := by decide +kernel
theorem dX9_lowest_48 : decode cX9_lowest 48 = .ok (.lreturn, 1) := by decide +kernel
theorem dX9_bounded_0 : decode cX9_bounded 0 = .ok (.lload_n 0, 1) := by decide +kernel
theorem dX9_bounded_1 : decode cX9_bounded 1 = .ok (.ldc2_w 28, 3) := by decide +kernel
theorem dX9_bounded_4 : decode cX9_bounded 4 = .ok (.lcmp, 1) := by decide +kernel
theorem dX9_bounded_5 : decode cX9_bounded 5 = .ok (.ifCond .le 9, 3) := by decide +kernel
theorem dX9_bounded_8 : decode cX9_bounded 8 = .ok (.ldc2_w 28, 3) := by decide +kernel
theorem dX9_bounded_11 : decode cX9_bounded 11 = .ok (.goto 18, 3) := by decide +kernel
theorem dX9_bounded_14 : decode cX9_bounded 14 = .ok (.lload_n 0, 1) := by decide +kernel
theorem dX9_bounded_15 : decode cX9_bounded 15 = .ok (.ldc2_w 30, 3) := by decide +kernel
theorem dX9_bounded_18 : decode cX9_bounded 18 = .ok (.lcmp, 1) := by decide +kernel
theorem dX9_bounded_19 : decode cX9_bounded 19 = .ok (.ifCond .ge 9, 3) := by decide +kernel
theorem dX9_bounded_22 : decode cX9_bounded 22 = .ok (.ldc2_w 30, 3) := by decide +kernel
theorem dX9_bounded_25 : decode cX9_bounded 25 = .ok (.goto 4, 3) := by decide +kernel
theorem dX9_bounded_28 : decode cX9_bounded 28 = .ok (.lload_n 0, 1) := by decide +kernel
theorem dX9_bounded_29 : decode cX9_bounded 29 = .ok (.lreturn, 1) := by decide +kernel
theorem dX9_fitted_0 : decode cX9_fitted 0 = .ok (.iload_n 0, 1) := by decide +kernel
theorem dX9_fitted_1 : decode cX9_fitted 1 = .ok (.iconst 2, 1) := by decide +kernel
theorem dX9_fitted_2 : decode cX9_fitted 2 = .ok (.if_icmp .ne 8, 3) := by decide +kernel
theorem dX9_fitted_5 : decode cX9_fitted 5 = .ok (.lload_n 1, 1) := by decide +kernel
theorem dX9_fitted_6 : decode cX9_fitted 6 = .ok (.invokestatic 32, 3) := by decide +kernel
theorem dX9_fitted_9 : decode cX9_fitted 9 = .ok (.lreturn, 1) := by decide +kernel
theorem dX9_fitted_10 : decode cX9_fitted 10 = .ok (.iload_n 0, 1) := by decide +kernel
theorem dX9_fitted_11 : decode cX9_fitted 11 = .ok (.iconst 3, 1) := by decide +kernel
theorem dX9_fitted_12 : decode cX9_fitted 12 = .ok (.if_icmp .ne 15, 3) := by decide +kernel
theorem dX9_fitted_15 : decode cX9_fitted 15 = .ok (.lload_n 1, 1) := by decide +kernel
theorem dX9_fitted_16 : decode cX9_fitted 16 = .ok (.lconst 0, 1) := by decide +kernel
theorem dX9_fitted_17 : decode cX9_fitted 17 = .ok (.lcmp, 1) := by decide +kernel
theorem dX9_fitted_18 : decode cX9_fitted 18 = .ok (.ifCond .eq 7, 3) := by decide +kernel
theorem dX9_fitted_21 : decode cX9_fitted 21 = .ok (.lconst 1, 1) := by decide +kernel
theorem dX9_fitted_22 : decode cX9_fitted 22 = .ok (.goto 4, 3) := by decide +kernel
theorem dX9_fitted_25 : decode cX9_fitted 25 = .ok (.lconst 0, 1) := by decide +kernel
theorem dX9_fitted_26 : decode cX9_fitted 26 = .ok (.lreturn, 1) := by decide +kernel
theorem dX9_fitted_27 : decode cX9_fitted 27 = .ok (.iload_n 0, 1) := by decide +kernel
theorem dX9_fitted_28 : decode cX9_fitted 28 = .ok (.ifCond .ne 14, 3) := by decide +kernel
theorem dX9_fitted_31 : decode cX9_fitted 31 = .ok (.lload_n 1, 1) := by decide +kernel
theorem dX9_fitted_32 : decode cX9_fitted 32 = .ok (.ldc2_w 36, 3) := by decide +kernel
theorem dX9_fitted_35 : decode cX9_fitted 35 = .ok (.iconst 0, 1) := by decide +kernel
theorem dX9_fitted_36 : decode cX9_fitted 36 = .ok (.invokestatic 38, 3) := by decide +kernel
theorem dX9_fitted_39 : decode cX9_fitted 39 = .ok (.goto 27, 3) := by decide +kernel
theorem dX9_fitted_42 : decode cX9_fitted 42 = .ok (.iload_n 0, 1) := by decide +kernel
theorem dX9_fitted_43 : decode cX9_fitted 43 = .ok (.iconst 1, 1) := by decide +kernel
theorem dX9_fitted_44 : decode cX9_fitted 44 = .ok (.if_icmp .ne 14, 3) := by decide +kernel
theorem dX9_fitted_47 : decode cX9_fitted 47 = .ok (.lload_n 1, 1) := by decide +kernel
theorem dX9_fitted_48 : decode cX9_fitted 48 = .ok (.ldc2_w 36, 3) := by decide +kernel
theorem dX9_fitted_51 : decode cX9_fitted 51 = .ok (.iconst 1, 1) := by decide +kernel
theorem dX9_fitted_52 : decode cX9_fitted 52 = .ok (.invokestatic 38, 3) := by decide +kernel
theorem dX9_fitted_55 : decode cX9_fitted 55 = .ok (.goto 11, 3) := by decide +kernel
theorem dX9_fitted_58 : decode cX9_fitted 58 = .ok (.lload_n 1, 1) := by decide +kernel
theorem dX9_fitted_59 : decode cX9_fitted 59 = .ok (.ldc2_w 42, 3) := by decide +kernel
theorem dX9_fitted_62 : decode cX9_fitted 62 = .ok (.iconst 1, 1) := by decide +kernel
theorem dX9_fitted_63 : decode cX9_fitted 63 = .ok (.invokestatic 38, 3) := by decide +kernel
theorem dX9_fitted_66 : decode cX9_fitted 66 = .ok (.lreturn, 1) := by decide +kernel
theorem dX9_raised_0 : decode cX9_raised 0 = .ok (.iload_n 0, 1) := by decide +kernel
theorem dX9_raised_1 : decode cX9_raised 1 = .ok (.iconst 2, 1) := by decide +kernel
theorem dX9_raised_2 : decode cX9_raised 2 = .ok (.if_icmp .ne 16, 3) := by decide +kernel
theorem dX9_raised_5 : decode cX9_raised 5 = .ok (.lload_n 1, 1) := by decide +kernel
theorem dX9_raised_6 : decode cX9_raised 6 = .ok (.lload_n 3, 1) := by decide +kernel
theorem dX9_raised_7 : decode cX9_raised 7 = .ok (.invokestatic 32, 3) := by decide +kernel
theorem dX9_raised_10 : decode cX9_raised 10 = .ok (.ladd, 1) := by decide +kernel
theorem dX9_raised_11 : decode cX9_raised 11 = .ok (.invokestatic 32, 3) := by decide +kernel
theorem dX9_raised_14 : decode cX9_raised 14 = .ok (.invokestatic 44, 3) := by decide +kernel
theorem dX9_raised_17 : decode cX9_raised 17 = .ok (.lreturn, 1) := by decide +kernel
theorem dX9_raised_18 : decode cX9_raised 18 = .ok (.iload_n 0, 1) := by decide +kernel
theorem dX9_raised_19 : decode cX9_raised 19 = .ok (.iconst 3, 1) := by decide +kernel
theorem dX9_raised_20 : decode cX9_raised 20 = .ok (.if_icmp .ne 21, 3) := by decide +kernel
theorem dX9_raised_23 : decode cX9_raised 23 = .ok (.lload_n 3, 1) := by decide +kernel
theorem dX9_raised_24 : decode cX9_raised 24 = .ok (.ldc2_w 26, 3) := by decide +kernel
theorem dX9_raised_27 : decode cX9_raised 27 = .ok (.lrem, 1) := by decide +kernel
theorem dX9_raised_28 : decode cX9_raised 28 = .ok (.lconst 0, 1) := by decide +kernel
theorem dX9_raised_29 : decode cX9_raised 29 = .ok (.lcmp, 1) := by decide +kernel
theorem dX9_raised_30 : decode cX9_raised 30 = .ok (.ifCond .eq 9, 3) := by decide +kernel
theorem dX9_raised_33 : decode cX9_raised 33 = .ok (.lconst 1, 1) := by decide +kernel
theorem dX9_raised_34 : decode cX9_raised 34 = .ok (.lload_n 1, 1) := by decide +kernel
theorem dX9_raised_35 : decode cX9_raised 35 = .ok (.lsub, 1) := by decide +kernel
theorem dX9_raised_36 : decode cX9_raised 36 = .ok (.goto 4, 3) := by decide +kernel
theorem dX9_raised_39 : decode cX9_raised 39 = .ok (.lload_n 1, 1) := by decide +kernel
theorem dX9_raised_40 : decode cX9_raised 40 = .ok (.lreturn, 1) := by decide +kernel
theorem dX9_raised_41 : decode cX9_raised 41 = .ok (.iload_n 0, 1) := by decide +kernel
theorem dX9_raised_42 : decode cX9_raised 42 = .ok (.lload_n 1, 1) := by decide +kernel
theorem dX9_raised_43 : decode cX9_raised 43 = .ok (.lload_n 3, 1) := by decide +kernel
theorem dX9_raised_44 : decode cX9_raised 44 = .ok (.ladd, 1) := by decide +kernel
theorem dX9_raised_45 : decode cX9_raised 45 = .ok (.invokestatic 47, 3) := by decide +kernel
theorem dX9_raised_48 : decode cX9_raised 48 = .ok (.lreturn, 1) := by decide +kernel
theorem dX9_multiplied_0 : decode cX9_multiplied 0 = .ok (.iload_n 0, 1) := by decide +kernel
theorem dX9_multiplied_1 : decode cX9_multiplied 1 = .ok (.iconst 2, 1) := by decide +kernel
theorem dX9_multiplied_2 : decode cX9_multiplied 2 = .ok (.if_icmp .ne 13, 3) := by decide +kernel
theorem dX9_multiplied_5 : decode cX9_multiplied 5 = .ok (.lload_n 1, 1) := by decide +kernel
theorem dX9_multiplied_6 : decode cX9_multiplied 6 = .ok (.lload_n 3, 1) := by decide +kernel
theorem dX9_multiplied_7 : decode cX9_multiplied 7 = .ok (.invokestatic 32, 3) := by decide +kernel
theorem dX9_multiplied_10 : decode cX9_multiplied 10 = .ok (.lmul, 1) := by decide +kernel
theorem dX9_multiplied_11 : decode cX9_multiplied 11 = .ok (.invokestatic 44, 3) := by decide +kernel
theorem dX9_multiplied_14 : decode cX9_multiplied 14 = .ok (.lreturn, 1) := by decide +kernel
theorem dX9_multiplied_15 : decode cX9_multiplied 15 = .ok (.iload_n 0, 1) := by decide +kernel
theorem dX9_multiplied_16 : decode cX9_multiplied 16 = .ok (.iconst 3, 1) := by decide +kernel
theorem dX9_multiplied_17 : decode cX9_multiplied 17 = .ok (.if_icmp .ne 15, 3) := by decide +kernel
theorem dX9_multiplied_20 : decode cX9_multiplied 20 = .ok (.lload_n 3, 1) := by decide +kernel
theorem dX9_multiplied_21 : decode cX9_multiplied 21 = .ok (.lconst 0, 1) := by decide +kernel
theorem dX9_multiplied_22 : decode cX9_multiplied 22 = .ok (.lcmp, 1) := by decide +kernel
theorem dX9_multiplied_23 : decode cX9_multiplied 23 = .ok (.ifCond .ne 7, 3) := by decide +kernel
theorem dX9_multiplied_26 : decode cX9_multiplied 26 = .ok (.lconst 0, 1) := by decide +kernel
theorem dX9_multiplied_27 : decode cX9_multiplied 27 = .ok (.goto 4, 3) := by decide +kernel
theorem dX9_multiplied_30 : decode cX9_multiplied 30 = .ok (.lload_n 1, 1) := by decide +kernel
theorem dX9_multiplied_31 : decode cX9_multiplied 31 = .ok (.lreturn, 1) := by decide +kernel
theorem dX9_multiplied_32 : decode cX9_multiplied 32 = .ok (.iload_n 0, 1) := by decide +kernel
theorem dX9_multiplied_33 : decode cX9_multiplied 33 = .ok (.lload_n 1, 1) := by decide +kernel
theorem dX9_multiplied_34 : decode cX9_multiplied 34 = .ok (.lload_n 3, 1) := by decide +kernel
theorem dX9_multiplied_35 : decode cX9_multiplied 35 = .ok (.lmul, 1) := by decide +kernel
theorem dX9_multiplied_36 : decode cX9_multiplied 36 = .ok (.invokestatic 47, 3) := by decide +kernel
theorem dX9_multiplied_39 : decode cX9_multiplied 39 = .ok (.lreturn, 1) := by decide +kernel
theorem dX9_isRoll_0 : decode cX9_isRoll 0 = .ok (.iload_n 0, 1) := by decide +kernel
theorem dX9_isRoll_1 : decode cX9_isRoll 1 = .ok (.ifCond .lt 12, 3) := by decide +kernel
theorem dX9_isRoll_4 : decode cX9_isRoll 4 = .ok (.iload_n 0, 1) := by decide +kernel
theorem dX9_isRoll_5 : decode cX9_isRoll 5 = .ok (.iconst 5, 1) := by decide +kernel
theorem dX9_isRoll_6 : decode cX9_isRoll 6 = .ok (.if_icmp .ge 7, 3) := by decide +kernel
theorem dX9_isRoll_9 : decode cX9_isRoll 9 = .ok (.iconst 1, 1) := by decide +kernel
theorem dX9_isRoll_10 : decode cX9_isRoll 10 = .ok (.goto 4, 3) := by decide +kernel
theorem dX9_isRoll_13 : decode cX9_isRoll 13 = .ok (.iconst 0, 1) := by decide +kernel
theorem dX9_isRoll_14 : decode cX9_isRoll 14 = .ok (.ireturn, 1) := by decide +kernel
theorem dX9_lacks_0 : decode cX9_lacks 0 = .ok (.iload_n 1, 1) := by decide +kernel
theorem dX9_lacks_1 : decode cX9_lacks 1 = .ok (.invokestatic 51, 3) := by decide +kernel
theorem dX9_lacks_4 : decode cX9_lacks 4 = .ok (.ifCond .ne 5, 3) := by decide +kernel
theorem dX9_lacks_7 : decode cX9_lacks 7 = .ok (.iconst 1, 1) := by decide +kernel
theorem dX9_lacks_8 : decode cX9_lacks 8 = .ok (.ireturn, 1) := by decide +kernel
theorem dX9_lacks_9 : decode cX9_lacks 9 = .ok (.aload_n 0, 1) := by decide +kernel
theorem dX9_lacks_10 : decode cX9_lacks 10 = .ok (.getfield 13, 3) := by decide +kernel
theorem dX9_lacks_13 : decode cX9_lacks 13 = .ok (.iload_n 1, 1) := by decide +kernel
theorem dX9_lacks_14 : decode cX9_lacks 14 = .ok (.iaload, 1) := by decide +kernel
theorem dX9_lacks_15 : decode cX9_lacks 15 = .ok (.ifCond .ge 5, 3) := by decide +kernel
theorem dX9_lacks_18 : decode cX9_lacks 18 = .ok (.iconst 2, 1) := by decide +kernel
theorem dX9_lacks_19 : decode cX9_lacks 19 = .ok (.ireturn, 1) := by decide +kernel
theorem dX9_lacks_20 : decode cX9_lacks 20 = .ok (.iload_n 2, 1) := by decide +kernel
theorem dX9_lacks_21 : decode cX9_lacks 21 = .ok (.ifCond .lt 13, 3) := by decide +kernel
theorem dX9_lacks_24 : decode cX9_lacks 24 = .ok (.iload_n 2, 1) := by decide +kernel
theorem dX9_lacks_25 : decode cX9_lacks 25 = .ok (.aload_n 0, 1) := by decide +kernel
theorem dX9_lacks_26 : decode cX9_lacks 26 = .ok (.getfield 13, 3) := by decide +kernel
theorem dX9_lacks_29 : decode cX9_lacks 29 = .ok (.iload_n 1, 1) := by decide +kernel
theorem dX9_lacks_30 : decode cX9_lacks 30 = .ok (.iaload, 1) := by decide +kernel
theorem dX9_lacks_31 : decode cX9_lacks 31 = .ok (.if_icmp .lt 7, 3) := by decide +kernel
theorem dX9_lacks_34 : decode cX9_lacks 34 = .ok (.iconst 3, 1) := by decide +kernel
theorem dX9_lacks_35 : decode cX9_lacks 35 = .ok (.goto 4, 3) := by decide +kernel
theorem dX9_lacks_38 : decode cX9_lacks 38 = .ok (.iconst 0, 1) := by decide +kernel
theorem dX9_lacks_39 : decode cX9_lacks 39 = .ok (.ireturn, 1) := by decide +kernel
theorem dX9_tells_0 : decode cX9_tells 0 = .ok (.aload_n 0, 1) := by decide +kernel
theorem dX9_tells_1 : decode cX9_tells 1 = .ok (.getfield 7, 3) := by decide +kernel
theorem dX9_tells_4 : decode cX9_tells 4 = .ok (.sipush 200, 3) := by decide +kernel
theorem dX9_tells_7 : decode cX9_tells 7 = .ok (.iload_n 1, 1) := by decide +kernel
theorem dX9_tells_8 : decode cX9_tells 8 = .ok (.imul, 1) := by decide +kernel
theorem dX9_tells_9 : decode cX9_tells 9 = .ok (.iload_n 2, 1) := by decide +kernel
theorem dX9_tells_10 : decode cX9_tells 10 = .ok (.iadd, 1) := by decide +kernel
theorem dX9_tells_11 : decode cX9_tells 11 = .ok (.lload_n 3, 1) := by decide +kernel
theorem dX9_tells_12 : decode cX9_tells 12 = .ok (.lastore, 1) := by decide +kernel
theorem dX9_tells_13 : decode cX9_tells 13 = .ok (.aload_n 0, 1) := by decide +kernel
theorem dX9_tells_14 : decode cX9_tells 14 = .ok (.lload_n 3, 1) := by decide +kernel
theorem dX9_tells_15 : decode cX9_tells 15 = .ok (.ldc2_w 55, 3) := by decide +kernel
theorem dX9_tells_18 : decode cX9_tells 18 = .ok (.lcmp, 1) := by decide +kernel
theorem dX9_tells_19 : decode cX9_tells 19 = .ok (.ifCond .le 8, 3) := by decide +kernel
theorem dX9_tells_22 : decode cX9_tells 22 = .ok (.ldc 57, 2) := by decide +kernel
theorem dX9_tells_24 : decode cX9_tells 24 = .ok (.goto 5, 3) := by decide +kernel
theorem dX9_tells_27 : decode cX9_tells 27 = .ok (.lload_n 3, 1) := by decide +kernel
theorem dX9_tells_28 : decode cX9_tells 28 = .ok (.l2i, 1) := by decide +kernel
theorem dX9_tells_29 : decode cX9_tells 29 = .ok (.putfield 58, 3) := by decide +kernel
theorem dX9_tells_32 : decode cX9_tells 32 = .ok (.iconst 0, 1) := by decide +kernel
theorem dX9_tells_33 : decode cX9_tells 33 = .ok (.ireturn, 1) := by decide +kernel
theorem dX9_hang_0 : decode cX9_hang 0 = .ok (.iload_n 1, 1) := by decide +kernel
theorem dX9_hang_1 : decode cX9_hang 1 = .ok (.invokestatic 51, 3) := by decide +kernel
theorem dX9_hang_4 : decode cX9_hang 4 = .ok (.ifCond .ne 5, 3) := by decide +kernel
theorem dX9_hang_7 : decode cX9_hang 7 = .ok (.iconst 1, 1) := by decide +kernel
theorem dX9_hang_8 : decode cX9_hang 8 = .ok (.ireturn, 1) := by decide +kernel
theorem dX9_hang_9 : decode cX9_hang 9 = .ok (.iload_n 2, 1) := by decide +kernel
theorem dX9_hang_10 : decode cX9_hang 10 = .ok (.sipush 200, 3) := by decide +kernel
theorem dX9_hang_13 : decode cX9_hang 13 = .ok (.if_icmp .le 5, 3) := by decide +kernel
theorem dX9_hang_16 : decode cX9_hang 16 = .ok (.iconst 5, 1) := by decide +kernel
theorem dX9_hang_17 : decode cX9_hang 17 = .ok (.ireturn, 1) := by decide +kernel
theorem dX9_hang_18 : decode cX9_hang 18 = .ok (.iload_n 2, 1) := by decide +kernel
theorem dX9_hang_19 : decode cX9_hang 19 = .ok (.ifCond .ge 5, 3) := by decide +kernel
theorem dX9_hang_22 : decode cX9_hang 22 = .ok (.iconst 4, 1) := by decide +kernel
theorem dX9_hang_23 : decode cX9_hang 23 = .ok (.ireturn, 1) := by decide +kernel
theorem dX9_hang_24 : decode cX9_hang 24 = .ok (.aload_n 0, 1) := by decide +kernel
theorem dX9_hang_25 : decode cX9_hang 25 = .ok (.getfield 13, 3) := by decide +kernel
theorem dX9_hang_28 : decode cX9_hang 28 = .ok (.iload_n 1, 1) := by decide +kernel
theorem dX9_hang_29 : decode cX9_hang 29 = .ok (.iload_n 2, 1) := by decide +kernel
theorem dX9_hang_30 : decode cX9_hang 30 = .ok (.iastore, 1) := by decide +kernel
theorem dX9_hang_31 : decode cX9_hang 31 = .ok (.iconst 0, 1) := by decide +kernel
theorem dX9_hang_32 : decode cX9_hang 32 = .ok (.istore_n 3, 1) := by decide +kernel
theorem dX9_hang_33 : decode cX9_hang 33 = .ok (.iload_n 3, 1) := by decide +kernel
theorem dX9_hang_34 : decode cX9_hang 34 = .ok (.iload_n 2, 1) := by decide +kernel
theorem dX9_hang_35 : decode cX9_hang 35 = .ok (.if_icmp .ge 22, 3) := by decide +kernel
theorem dX9_hang_38 : decode cX9_hang 38 = .ok (.aload_n 0, 1) := by decide +kernel
theorem dX9_hang_39 : decode cX9_hang 39 = .ok (.getfield 7, 3) := by decide +kernel
theorem dX9_hang_42 : decode cX9_hang 42 = .ok (.sipush 200, 3) := by decide +kernel
theorem dX9_hang_45 : decode cX9_hang 45 = .ok (.iload_n 1, 1) := by decide +kernel
theorem dX9_hang_46 : decode cX9_hang 46 = .ok (.imul, 1) := by decide +kernel
theorem dX9_hang_47 : decode cX9_hang 47 = .ok (.iload_n 3, 1) := by decide +kernel
theorem dX9_hang_48 : decode cX9_hang 48 = .ok (.iadd, 1) := by decide +kernel
theorem dX9_hang_49 : decode cX9_hang 49 = .ok (.lconst 0, 1) := by decide +kernel
theorem dX9_hang_50 : decode cX9_hang 50 = .ok (.lastore, 1) := by decide +kernel
theorem dX9_hang_51 : decode cX9_hang 51 = .ok (.iinc 3 1, 3) := by decide +kernel
theorem dX9_hang_54 : decode cX9_hang 54 = .ok (.goto (-21), 3) := by decide +kernel
theorem dX9_hang_57 : decode cX9_hang 57 = .ok (.iconst 0, 1) := by decide +kernel
theorem dX9_hang_58 : decode cX9_hang 58 = .ok (.ireturn, 1) := by decide +kernel
theorem dX9_tear_0 : decode cX9_tear 0 = .ok (.iload_n 1, 1) := by decide +kernel
theorem dX9_tear_1 : decode cX9_tear 1 = .ok (.invokestatic 51, 3) := by decide +kernel
theorem dX9_tear_4 : decode cX9_tear 4 = .ok (.ifCond .ne 5, 3) := by decide +kernel
theorem dX9_tear_7 : decode cX9_tear 7 = .ok (.iconst 1, 1) := by decide +kernel
theorem dX9_tear_8 : decode cX9_tear 8 = .ok (.ireturn, 1) := by decide +kernel
theorem dX9_tear_9 : decode cX9_tear 9 = .ok (.aload_n 0, 1) := by decide +kernel
theorem dX9_tear_10 : decode cX9_tear 10 = .ok (.getfield 13, 3) := by decide +kernel
theorem dX9_tear_13 : decode cX9_tear 13 = .ok (.iload_n 1, 1) := by decide +kernel
theorem dX9_tear_14 : decode cX9_tear 14 = .ok (.iaload, 1) := by decide +kernel
theorem dX9_tear_15 : decode cX9_tear 15 = .ok (.ifCond .ge 5, 3) := by decide +kernel
theorem dX9_tear_18 : decode cX9_tear 18 = .ok (.iconst 2, 1) := by decide +kernel
theorem dX9_tear_19 : decode cX9_tear 19 = .ok (.ireturn, 1) := by decide +kernel
theorem dX9_tear_20 : decode cX9_tear 20 = .ok (.aload_n 0, 1) := by decide +kernel
theorem dX9_tear_21 : decode cX9_tear 21 = .ok (.getfield 13, 3) := by decide +kernel
theorem dX9_tear_24 : decode cX9_tear 24 = .ok (.iload_n 1, 1) := by decide +kernel
theorem dX9_tear_25 : decode cX9_tear 25 = .ok (.iconst (-1), 1) := by decide +kernel
theorem dX9_tear_26 : decode cX9_tear 26 = .ok (.iastore, 1) := by decide +kernel
theorem dX9_tear_27 : decode cX9_tear 27 = .ok (.iconst 0, 1) := by decide +kernel
theorem dX9_tear_28 : decode cX9_tear 28 = .ok (.ireturn, 1) := by decide +kernel
theorem dX9_read_0 : decode cX9_read 0 = .ok (.aload_n 0, 1) := by decide +kernel
theorem dX9_read_1 : decode cX9_read 1 = .ok (.iload_n 1, 1) := by decide +kernel
theorem dX9_read_2 : decode cX9_read 2 = .ok (.iload_n 2, 1) := by decide +kernel
theorem dX9_read_3 : decode cX9_read 3 = .ok (.invokevirtual 62, 3) := by decide +kernel
theorem dX9_read_6 : decode cX9_read 6 = .ok (.istore_n 3, 1) := by decide +kernel
theorem dX9_read_7 : decode cX9_read 7 = .ok (.iload_n 3, 1) := by decide +kernel
theorem dX9_read_8 : decode cX9_read 8 = .ok (.ifCond .le 7, 3) := by decide +kernel
theorem dX9_read_11 : decode cX9_read 11 = .ok (.iload_n 3, 1) := by decide +kernel
theorem dX9_read_12 : decode cX9_read 12 = .ok (.goto 21, 3) := by decide +kernel
theorem dX9_read_15 : decode cX9_read 15 = .ok (.aload_n 0, 1) := by decide +kernel
theorem dX9_read_16 : decode cX9_read 16 = .ok (.iload_n 1, 1) := by decide +kernel
theorem dX9_read_17 : decode cX9_read 17 = .ok (.iload_n 2, 1) := by decide +kernel
theorem dX9_read_18 : decode cX9_read 18 = .ok (.aload_n 0, 1) := by decide +kernel
theorem dX9_read_19 : decode cX9_read 19 = .ok (.getfield 7, 3) := by decide +kernel
theorem dX9_read_22 : decode cX9_read 22 = .ok (.sipush 200, 3) := by decide +kernel
theorem dX9_read_25 : decode cX9_read 25 = .ok (.iload_n 1, 1) := by decide +kernel
theorem dX9_read_26 : decode cX9_read 26 = .ok (.imul, 1) := by decide +kernel
theorem dX9_read_27 : decode cX9_read 27 = .ok (.iload_n 2, 1) := by decide +kernel
theorem dX9_read_28 : decode cX9_read 28 = .ok (.iadd, 1) := by decide +kernel
theorem dX9_read_29 : decode cX9_read 29 = .ok (.laload, 1) := by decide +kernel
theorem dX9_read_30 : decode cX9_read 30 = .ok (.invokevirtual 66, 3) := by decide +kernel
theorem dX9_read_33 : decode cX9_read 33 = .ok (.ireturn, 1) := by decide +kernel
theorem dX9_mark_0 : decode cX9_mark 0 = .ok (.aload_n 0, 1) := by decide +kernel
theorem dX9_mark_1 : decode cX9_mark 1 = .ok (.iload_n 1, 1) := by decide +kernel
theorem dX9_mark_2 : decode cX9_mark 2 = .ok (.iload_n 2, 1) := by decide +kernel
theorem dX9_mark_3 : decode cX9_mark 3 = .ok (.invokevirtual 62, 3) := by decide +kernel
theorem dX9_mark_6 : decode cX9_mark 6 = .ok (.istore 4, 2) := by decide +kernel
theorem dX9_mark_8 : decode cX9_mark 8 = .ok (.iload 4, 2) := by decide +kernel
theorem dX9_mark_10 : decode cX9_mark 10 = .ok (.ifCond .le 8, 3) := by decide +kernel
theorem dX9_mark_13 : decode cX9_mark 13 = .ok (.iload 4, 2) := by decide +kernel
theorem dX9_mark_15 : decode cX9_mark 15 = .ok (.goto 15, 3) := by decide +kernel
theorem dX9_mark_18 : decode cX9_mark 18 = .ok (.aload_n 0, 1) := by decide +kernel
theorem dX9_mark_19 : decode cX9_mark 19 = .ok (.iload_n 1, 1) := by decide +kernel
theorem dX9_mark_20 : decode cX9_mark 20 = .ok (.iload_n 2, 1) := by decide +kernel
theorem dX9_mark_21 : decode cX9_mark 21 = .ok (.iload_n 1, 1) := by decide +kernel
theorem dX9_mark_22 : decode cX9_mark 22 = .ok (.iload_n 3, 1) := by decide +kernel
theorem dX9_mark_23 : decode cX9_mark 23 = .ok (.i2l, 1) := by decide +kernel
theorem dX9_mark_24 : decode cX9_mark 24 = .ok (.invokestatic 47, 3) := by decide +kernel
theorem dX9_mark_27 : decode cX9_mark 27 = .ok (.invokevirtual 66, 3) := by decide +kernel
theorem dX9_mark_30 : decode cX9_mark 30 = .ok (.ireturn, 1) := by decide +kernel
theorem dX9_more_0 : decode cX9_more 0 = .ok (.aload_n 0, 1) := by decide +kernel
theorem dX9_more_1 : decode cX9_more 1 = .ok (.iload_n 1, 1) := by decide +kernel
theorem dX9_more_2 : decode cX9_more 2 = .ok (.iload_n 2, 1) := by decide +kernel
theorem dX9_more_3 : decode cX9_more 3 = .ok (.invokevirtual 62, 3) := by decide +kernel
theorem dX9_more_6 : decode cX9_more 6 = .ok (.istore 4, 2) := by decide +kernel
theorem dX9_more_8 : decode cX9_more 8 = .ok (.iload 4, 2) := by decide +kernel
theorem dX9_more_10 : decode cX9_more 10 = .ok (.ifCond .le 8, 3) := by decide +kernel
theorem dX9_more_13 : decode cX9_more 13 = .ok (.iload 4, 2) := by decide +kernel
theorem dX9_more_15 : decode cX9_more 15 = .ok (.goto 27, 3) := by decide +kernel
theorem dX9_more_18 : decode cX9_more 18 = .ok (.aload_n 0, 1) := by decide +kernel
theorem dX9_more_19 : decode cX9_more 19 = .ok (.iload_n 1, 1) := by decide +kernel
theorem dX9_more_20 : decode cX9_more 20 = .ok (.iload_n 2, 1) := by decide +kernel
theorem dX9_more_21 : decode cX9_more 21 = .ok (.iload_n 1, 1) := by decide +kernel
theorem dX9_more_22 : decode cX9_more 22 = .ok (.aload_n 0, 1) := by decide +kernel
theorem dX9_more_23 : decode cX9_more 23 = .ok (.getfield 7, 3) := by decide +kernel
theorem dX9_more_26 : decode cX9_more 26 = .ok (.sipush 200, 3) := by decide +kernel
theorem dX9_more_29 : decode cX9_more 29 = .ok (.iload_n 1, 1) := by decide +kernel
theorem dX9_more_30 : decode cX9_more 30 = .ok (.imul, 1) := by decide +kernel
theorem dX9_more_31 : decode cX9_more 31 = .ok (.iload_n 2, 1) := by decide +kernel
theorem dX9_more_32 : decode cX9_more 32 = .ok (.iadd, 1) := by decide +kernel
theorem dX9_more_33 : decode cX9_more 33 = .ok (.laload, 1) := by decide +kernel
theorem dX9_more_34 : decode cX9_more 34 = .ok (.iload_n 3, 1) := by decide +kernel
theorem dX9_more_35 : decode cX9_more 35 = .ok (.i2l, 1) := by decide +kernel
theorem dX9_more_36 : decode cX9_more 36 = .ok (.invokestatic 70, 3) := by decide +kernel
theorem dX9_more_39 : decode cX9_more 39 = .ok (.invokevirtual 66, 3) := by decide +kernel
theorem dX9_more_42 : decode cX9_more 42 = .ok (.ireturn, 1) := by decide +kernel
theorem dX9_times_0 : decode cX9_times 0 = .ok (.aload_n 0, 1) := by decide +kernel
theorem dX9_times_1 : decode cX9_times 1 = .ok (.iload_n 1, 1) := by decide +kernel
theorem dX9_times_2 : decode cX9_times 2 = .ok (.iload_n 2, 1) := by decide +kernel
theorem dX9_times_3 : decode cX9_times 3 = .ok (.invokevirtual 62, 3) := by decide +kernel
theorem dX9_times_6 : decode cX9_times 6 = .ok (.istore 4, 2) := by decide +kernel
theorem dX9_times_8 : decode cX9_times 8 = .ok (.iload 4, 2) := by decide +kernel
theorem dX9_times_10 : decode cX9_times 10 = .ok (.ifCond .le 8, 3) := by decide +kernel
theorem dX9_times_13 : decode cX9_times 13 = .ok (.iload 4, 2) := by decide +kernel
theorem dX9_times_15 : decode cX9_times 15 = .ok (.goto 27, 3) := by decide +kernel
theorem dX9_times_18 : decode cX9_times 18 = .ok (.aload_n 0, 1) := by decide +kernel
theorem dX9_times_19 : decode cX9_times 19 = .ok (.iload_n 1, 1) := by decide +kernel
theorem dX9_times_20 : decode cX9_times 20 = .ok (.iload_n 2, 1) := by decide +kernel
theorem dX9_times_21 : decode cX9_times 21 = .ok (.iload_n 1, 1) := by decide +kernel
theorem dX9_times_22 : decode cX9_times 22 = .ok (.aload_n 0, 1) := by decide +kernel
theorem dX9_times_23 : decode cX9_times 23 = .ok (.getfield 7, 3) := by decide +kernel
theorem dX9_times_26 : decode cX9_times 26 = .ok (.sipush 200, 3) := by decide +kernel
theorem dX9_times_29 : decode cX9_times 29 = .ok (.iload_n 1, 1) := by decide +kernel
theorem dX9_times_30 : decode cX9_times 30 = .ok (.imul, 1) := by decide +kernel
theorem dX9_times_31 : decode cX9_times 31 = .ok (.iload_n 2, 1) := by decide +kernel
theorem dX9_times_32 : decode cX9_times 32 = .ok (.iadd, 1) := by decide +kernel
theorem dX9_times_33 : decode cX9_times 33 = .ok (.laload, 1) := by decide +kernel
theorem dX9_times_34 : decode cX9_times 34 = .ok (.iload_n 3, 1) := by decide +kernel
theorem dX9_times_35 : decode cX9_times 35 = .ok (.i2l, 1) := by decide +kernel
theorem dX9_times_36 : decode cX9_times 36 = .ok (.invokestatic 74, 3) := by decide +kernel
theorem dX9_times_39 : decode cX9_times 39 = .ok (.invokevirtual 66, 3) := by decide +kernel
theorem dX9_times_42 : decode cX9_times 42 = .ok (.ireturn, 1) := by decide +kernel
theorem dX9_size_0 : decode cX9_size 0 = .ok (.iload_n 1, 1) := by decide +kernel
theorem dX9_size_1 : decode cX9_size 1 = .ok (.invokestatic 51, 3) := by decide +kernel
theorem dX9_size_4 : decode cX9_size 4 = .ok (.ifCond .ne 5, 3) := by decide +kernel
theorem dX9_size_7 : decode cX9_size 7 = .ok (.iconst 1, 1) := by decide +kernel
theorem dX9_size_8 : decode cX9_size 8 = .ok (.ireturn, 1) := by decide +kernel
theorem dX9_size_9 : decode cX9_size 9 = .ok (.aload_n 0, 1) := by decide +kernel
theorem dX9_size_10 : decode cX9_size 10 = .ok (.getfield 13, 3) := by decide +kernel
theorem dX9_size_13 : decode cX9_size 13 = .ok (.iload_n 1, 1) := by decide +kernel
theorem dX9_size_14 : decode cX9_size 14 = .ok (.iaload, 1) := by decide +kernel
theorem dX9_size_15 : decode cX9_size 15 = .ok (.ifCond .ge 5, 3) := by decide +kernel
theorem dX9_size_18 : decode cX9_size 18 = .ok (.iconst 2, 1) := by decide +kernel
theorem dX9_size_19 : decode cX9_size 19 = .ok (.ireturn, 1) := by decide +kernel
theorem dX9_size_20 : decode cX9_size 20 = .ok (.aload_n 0, 1) := by decide +kernel
theorem dX9_size_21 : decode cX9_size 21 = .ok (.aload_n 0, 1) := by decide +kernel
theorem dX9_size_22 : decode cX9_size 22 = .ok (.getfield 13, 3) := by decide +kernel
theorem dX9_size_25 : decode cX9_size 25 = .ok (.iload_n 1, 1) := by decide +kernel
theorem dX9_size_26 : decode cX9_size 26 = .ok (.iaload, 1) := by decide +kernel
theorem dX9_size_27 : decode cX9_size 27 = .ok (.putfield 58, 3) := by decide +kernel
theorem dX9_size_30 : decode cX9_size 30 = .ok (.iconst 0, 1) := by decide +kernel
theorem dX9_size_31 : decode cX9_size 31 = .ok (.ireturn, 1) := by decide +kernel
theorem dX9_pour_0 : decode cX9_pour 0 = .ok (.iload_n 1, 1) := by decide +kernel
theorem dX9_pour_1 : decode cX9_pour 1 = .ok (.invokestatic 51, 3) := by decide +kernel
theorem dX9_pour_4 : decode cX9_pour 4 = .ok (.ifCond .eq 10, 3) := by decide +kernel
theorem dX9_pour_7 : decode cX9_pour 7 = .ok (.iload_n 3, 1) := by decide +kernel
theorem dX9_pour_8 : decode cX9_pour 8 = .ok (.invokestatic 51, 3) := by decide +kernel
theorem dX9_pour_11 : decode cX9_pour 11 = .ok (.ifCond .ne 5, 3) := by decide +kernel
theorem dX9_pour_14 : decode cX9_pour 14 = .ok (.iconst 1, 1) := by decide +kernel
theorem dX9_pour_15 : decode cX9_pour 15 = .ok (.ireturn, 1) := by decide +kernel
theorem dX9_pour_16 : decode cX9_pour 16 = .ok (.aload_n 0, 1) := by decide +kernel
theorem dX9_pour_17 : decode cX9_pour 17 = .ok (.iload_n 1, 1) := by decide +kernel
theorem dX9_pour_18 : decode cX9_pour 18 = .ok (.iload_n 2, 1) := by decide +kernel
theorem dX9_pour_19 : decode cX9_pour 19 = .ok (.invokevirtual 62, 3) := by decide +kernel
theorem dX9_pour_22 : decode cX9_pour 22 = .ok (.istore 5, 2) := by decide +kernel
theorem dX9_pour_24 : decode cX9_pour 24 = .ok (.iload 5, 2) := by decide +kernel
theorem dX9_pour_26 : decode cX9_pour 26 = .ok (.ifCond .le 8, 3) := by decide +kernel
theorem dX9_pour_29 : decode cX9_pour 29 = .ok (.iload 5, 2) := by decide +kernel
theorem dX9_pour_31 : decode cX9_pour 31 = .ok (.goto 10, 3) := by decide +kernel
theorem dX9_pour_34 : decode cX9_pour 34 = .ok (.aload_n 0, 1) := by decide +kernel
theorem dX9_pour_35 : decode cX9_pour 35 = .ok (.iload_n 3, 1) := by decide +kernel
theorem dX9_pour_36 : decode cX9_pour 36 = .ok (.iload 4, 2) := by decide +kernel
theorem dX9_pour_38 : decode cX9_pour 38 = .ok (.invokevirtual 62, 3) := by decide +kernel
theorem dX9_pour_41 : decode cX9_pour 41 = .ok (.istore 5, 2) := by decide +kernel
theorem dX9_pour_43 : decode cX9_pour 43 = .ok (.iload 5, 2) := by decide +kernel
theorem dX9_pour_45 : decode cX9_pour 45 = .ok (.ifCond .le 6, 3) := by decide +kernel
theorem dX9_pour_48 : decode cX9_pour 48 = .ok (.iload 5, 2) := by decide +kernel
theorem dX9_pour_50 : decode cX9_pour 50 = .ok (.ireturn, 1) := by decide +kernel
theorem dX9_pour_51 : decode cX9_pour 51 = .ok (.aload_n 0, 1) := by decide +kernel
theorem dX9_pour_52 : decode cX9_pour 52 = .ok (.getfield 7, 3) := by decide +kernel
theorem dX9_pour_55 : decode cX9_pour 55 = .ok (.sipush 200, 3) := by decide +kernel
theorem dX9_pour_58 : decode cX9_pour 58 = .ok (.iload_n 1, 1) := by decide +kernel
theorem dX9_pour_59 : decode cX9_pour 59 = .ok (.imul, 1) := by decide +kernel
theorem dX9_pour_60 : decode cX9_pour 60 = .ok (.iload_n 2, 1) := by decide +kernel
theorem dX9_pour_61 : decode cX9_pour 61 = .ok (.iadd, 1) := by decide +kernel
theorem dX9_pour_62 : decode cX9_pour 62 = .ok (.laload, 1) := by decide +kernel
theorem dX9_pour_63 : decode cX9_pour 63 = .ok (.lstore 6, 2) := by decide +kernel
theorem dX9_pour_65 : decode cX9_pour 65 = .ok (.aload_n 0, 1) := by decide +kernel
theorem dX9_pour_66 : decode cX9_pour 66 = .ok (.iload_n 3, 1) := by decide +kernel
theorem dX9_pour_67 : decode cX9_pour 67 = .ok (.iload 4, 2) := by decide +kernel
theorem dX9_pour_69 : decode cX9_pour 69 = .ok (.iload_n 3, 1) := by decide +kernel
theorem dX9_pour_70 : decode cX9_pour 70 = .ok (.lload 6, 2) := by decide +kernel
theorem dX9_pour_72 : decode cX9_pour 72 = .ok (.ldc2_w 55, 3) := by decide +kernel
theorem dX9_pour_75 : decode cX9_pour 75 = .ok (.lcmp, 1) := by decide +kernel
theorem dX9_pour_76 : decode cX9_pour 76 = .ok (.ifCond .le 9, 3) := by decide +kernel
theorem dX9_pour_79 : decode cX9_pour 79 = .ok (.ldc2_w 55, 3) := by decide +kernel
theorem dX9_pour_82 : decode cX9_pour 82 = .ok (.goto 5, 3) := by decide +kernel
theorem dX9_pour_85 : decode cX9_pour 85 = .ok (.lload 6, 2) := by decide +kernel
theorem dX9_pour_87 : decode cX9_pour 87 = .ok (.invokestatic 47, 3) := by decide +kernel
theorem dX9_pour_90 : decode cX9_pour 90 = .ok (.invokevirtual 66, 3) := by decide +kernel
theorem dX9_pour_93 : decode cX9_pour 93 = .ok (.ireturn, 1) := by decide +kernel
theorem dX9_board_0 : decode cX9_board 0 = .ok (.iload_n 1, 1) := by decide +kernel
theorem dX9_board_1 : decode cX9_board 1 = .ok (.bipush 40, 2) := by decide +kernel
theorem dX9_board_3 : decode cX9_board 3 = .ok (.if_icmp .gt 9, 3) := by decide +kernel
theorem dX9_board_6 : decode cX9_board 6 = .ok (.iload_n 2, 1) := by decide +kernel
theorem dX9_board_7 : decode cX9_board 7 = .ok (.bipush 40, 2) := by decide +kernel
theorem dX9_board_9 : decode cX9_board 9 = .ok (.if_icmp .le 5, 3) := by decide +kernel
theorem dX9_board_12 : decode cX9_board 12 = .ok (.iconst 5, 1) := by decide +kernel
theorem dX9_board_13 : decode cX9_board 13 = .ok (.ireturn, 1) := by decide +kernel
theorem dX9_board_14 : decode cX9_board 14 = .ok (.iload_n 1, 1) := by decide +kernel
theorem dX9_board_15 : decode cX9_board 15 = .ok (.ifCond .lt 7, 3) := by decide +kernel
theorem dX9_board_18 : decode cX9_board 18 = .ok (.iload_n 2, 1) := by decide +kernel
theorem dX9_board_19 : decode cX9_board 19 = .ok (.ifCond .ge 5, 3) := by decide +kernel
theorem dX9_board_22 : decode cX9_board 22 = .ok (.iconst 4, 1) := by decide +kernel
theorem dX9_board_23 : decode cX9_board 23 = .ok (.ireturn, 1) := by decide +kernel
theorem dX9_board_24 : decode cX9_board 24 = .ok (.aload_n 0, 1) := by decide +kernel
theorem dX9_board_25 : decode cX9_board 25 = .ok (.iconst 1, 1) := by decide +kernel
theorem dX9_board_26 : decode cX9_board 26 = .ok (.putfield 77, 3) := by decide +kernel
theorem dX9_board_29 : decode cX9_board 29 = .ok (.aload_n 0, 1) := by decide +kernel
theorem dX9_board_30 : decode cX9_board 30 = .ok (.iload_n 1, 1) := by decide +kernel
theorem dX9_board_31 : decode cX9_board 31 = .ok (.putfield 81, 3) := by decide +kernel
theorem dX9_board_34 : decode cX9_board 34 = .ok (.aload_n 0, 1) := by decide +kernel
theorem dX9_board_35 : decode cX9_board 35 = .ok (.iload_n 2, 1) := by decide +kernel
theorem dX9_board_36 : decode cX9_board 36 = .ok (.putfield 84, 3) := by decide +kernel
theorem dX9_board_39 : decode cX9_board 39 = .ok (.iconst 0, 1) := by decide +kernel
theorem dX9_board_40 : decode cX9_board 40 = .ok (.istore_n 3, 1) := by decide +kernel
theorem dX9_board_41 : decode cX9_board 41 = .ok (.iload_n 3, 1) := by decide +kernel
theorem dX9_board_42 : decode cX9_board 42 = .ok (.bipush 40, 2) := by decide +kernel
theorem dX9_board_44 : decode cX9_board 44 = .ok (.if_icmp .ge 16, 3) := by decide +kernel
theorem dX9_board_47 : decode cX9_board 47 = .ok (.aload_n 0, 1) := by decide +kernel
theorem dX9_board_48 : decode cX9_board 48 = .ok (.getfield 20, 3) := by decide +kernel
theorem dX9_board_51 : decode cX9_board 51 = .ok (.iload_n 3, 1) := by decide +kernel
theorem dX9_board_52 : decode cX9_board 52 = .ok (.iconst 0, 1) := by decide +kernel
theorem dX9_board_53 : decode cX9_board 53 = .ok (.bastore, 1) := by decide +kernel
theorem dX9_board_54 : decode cX9_board 54 = .ok (.iinc 3 1, 3) := by decide +kernel
theorem dX9_board_57 : decode cX9_board 57 = .ok (.goto (-16), 3) := by decide +kernel
theorem dX9_board_60 : decode cX9_board 60 = .ok (.iconst 0, 1) := by decide +kernel
theorem dX9_board_61 : decode cX9_board 61 = .ok (.istore_n 3, 1) := by decide +kernel
theorem dX9_board_62 : decode cX9_board 62 = .ok (.iload_n 3, 1) := by decide +kernel
theorem dX9_board_63 : decode cX9_board 63 = .ok (.sipush 1600, 3) := by decide +kernel
theorem dX9_board_66 : decode cX9_board 66 = .ok (.if_icmp .ge 16, 3) := by decide +kernel
theorem dX9_board_69 : decode cX9_board 69 = .ok (.aload_n 0, 1) := by decide +kernel
theorem dX9_board_70 : decode cX9_board 70 = .ok (.getfield 17, 3) := by decide +kernel
theorem dX9_board_73 : decode cX9_board 73 = .ok (.iload_n 3, 1) := by decide +kernel
theorem dX9_board_74 : decode cX9_board 74 = .ok (.iconst 0, 1) := by decide +kernel
theorem dX9_board_75 : decode cX9_board 75 = .ok (.iastore, 1) := by decide +kernel
theorem dX9_board_76 : decode cX9_board 76 = .ok (.iinc 3 1, 3) := by decide +kernel
theorem dX9_board_79 : decode cX9_board 79 = .ok (.goto (-17), 3) := by decide +kernel
theorem dX9_board_82 : decode cX9_board 82 = .ok (.iconst 0, 1) := by decide +kernel
theorem dX9_board_83 : decode cX9_board 83 = .ok (.ireturn, 1) := by decide +kernel
theorem dX9_lacksRow_0 : decode cX9_lacksRow 0 = .ok (.aload_n 0, 1) := by decide +kernel
theorem dX9_lacksRow_1 : decode cX9_lacksRow 1 = .ok (.getfield 77, 3) := by decide +kernel
theorem dX9_lacksRow_4 : decode cX9_lacksRow 4 = .ok (.ifCond .ne 5, 3) := by decide +kernel
theorem dX9_lacksRow_7 : decode cX9_lacksRow 7 = .ok (.iconst 2, 1) := by decide +kernel
theorem dX9_lacksRow_8 : decode cX9_lacksRow 8 = .ok (.ireturn, 1) := by decide +kernel
theorem dX9_lacksRow_9 : decode cX9_lacksRow 9 = .ok (.iload_n 1, 1) := by decide +kernel
theorem dX9_lacksRow_10 : decode cX9_lacksRow 10 = .ok (.ifCond .lt 11, 3) := by decide +kernel
theorem dX9_lacksRow_13 : decode cX9_lacksRow 13 = .ok (.iload_n 1, 1) := by decide +kernel
theorem dX9_lacksRow_14 : decode cX9_lacksRow 14 = .ok (.aload_n 0, 1) := by decide +kernel
theorem dX9_lacksRow_15 : decode cX9_lacksRow 15 = .ok (.getfield 81, 3) := by decide +kernel
theorem dX9_lacksRow_18 : decode cX9_lacksRow 18 = .ok (.if_icmp .lt 5, 3) := by decide +kernel
theorem dX9_lacksRow_21 : decode cX9_lacksRow 21 = .ok (.iconst 3, 1) := by decide +kernel
theorem dX9_lacksRow_22 : decode cX9_lacksRow 22 = .ok (.ireturn, 1) := by decide +kernel
theorem dX9_lacksRow_23 : decode cX9_lacksRow 23 = .ok (.aload_n 0, 1) := by decide +kernel
theorem dX9_lacksRow_24 : decode cX9_lacksRow 24 = .ok (.getfield 20, 3) := by decide +kernel
theorem dX9_lacksRow_27 : decode cX9_lacksRow 27 = .ok (.iload_n 1, 1) := by decide +kernel
theorem dX9_lacksRow_28 : decode cX9_lacksRow 28 = .ok (.baload, 1) := by decide +kernel
theorem dX9_lacksRow_29 : decode cX9_lacksRow 29 = .ok (.ifCond .eq 7, 3) := by decide +kernel
theorem dX9_lacksRow_32 : decode cX9_lacksRow 32 = .ok (.iconst 2, 1) := by decide +kernel
theorem dX9_lacksRow_33 : decode cX9_lacksRow 33 = .ok (.goto 4, 3) := by decide +kernel
theorem dX9_lacksRow_36 : decode cX9_lacksRow 36 = .ok (.iconst 0, 1) := by decide +kernel
theorem dX9_lacksRow_37 : decode cX9_lacksRow 37 = .ok (.ireturn, 1) := by decide +kernel
theorem dX9_lacksPeg_0 : decode cX9_lacksPeg 0 = .ok (.aload_n 0, 1) := by decide +kernel
theorem dX9_lacksPeg_1 : decode cX9_lacksPeg 1 = .ok (.iload_n 1, 1) := by decide +kernel
theorem dX9_lacksPeg_2 : decode cX9_lacksPeg 2 = .ok (.invokevirtual 87, 3) := by decide +kernel
theorem dX9_lacksPeg_5 : decode cX9_lacksPeg 5 = .ok (.istore_n 3, 1) := by decide +kernel
theorem dX9_lacksPeg_6 : decode cX9_lacksPeg 6 = .ok (.iload_n 3, 1) := by decide +kernel
theorem dX9_lacksPeg_7 : decode cX9_lacksPeg 7 = .ok (.ifCond .le 7, 3) := by decide +kernel
theorem dX9_lacksPeg_10 : decode cX9_lacksPeg 10 = .ok (.iload_n 3, 1) := by decide +kernel
theorem dX9_lacksPeg_11 : decode cX9_lacksPeg 11 = .ok (.goto 20, 3) := by decide +kernel
theorem dX9_lacksPeg_14 : decode cX9_lacksPeg 14 = .ok (.iload_n 2, 1) := by decide +kernel
theorem dX9_lacksPeg_15 : decode cX9_lacksPeg 15 = .ok (.ifCond .lt 11, 3) := by decide +kernel
theorem dX9_lacksPeg_18 : decode cX9_lacksPeg 18 = .ok (.iload_n 2, 1) := by decide +kernel
theorem dX9_lacksPeg_19 : decode cX9_lacksPeg 19 = .ok (.aload_n 0, 1) := by decide +kernel
theorem dX9_lacksPeg_20 : decode cX9_lacksPeg 20 = .ok (.getfield 84, 3) := by decide +kernel
theorem dX9_lacksPeg_23 : decode cX9_lacksPeg 23 = .ok (.if_icmp .lt 7, 3) := by decide +kernel
theorem dX9_lacksPeg_26 : decode cX9_lacksPeg 26 = .ok (.iconst 3, 1) := by decide +kernel
theorem dX9_lacksPeg_27 : decode cX9_lacksPeg 27 = .ok (.goto 4, 3) := by decide +kernel
theorem dX9_lacksPeg_30 : decode cX9_lacksPeg 30 = .ok (.iconst 0, 1) := by decide +kernel
theorem dX9_lacksPeg_31 : decode cX9_lacksPeg 31 = .ok (.ireturn, 1) := by decide +kernel
theorem dX9_peg_0 : decode cX9_peg 0 = .ok (.aload_n 0, 1) := by decide +kernel
theorem dX9_peg_1 : decode cX9_peg 1 = .ok (.iload_n 1, 1) := by decide +kernel
theorem dX9_peg_2 : decode cX9_peg 2 = .ok (.iload_n 2, 1) := by decide +kernel
theorem dX9_peg_3 : decode cX9_peg 3 = .ok (.invokevirtual 91, 3) := by decide +kernel
theorem dX9_peg_6 : decode cX9_peg 6 = .ok (.istore 4, 2) := by decide +kernel
theorem dX9_peg_8 : decode cX9_peg 8 = .ok (.iload 4, 2) := by decide +kernel
theorem dX9_peg_10 : decode cX9_peg 10 = .ok (.ifCond .le 6, 3) := by decide +kernel
theorem dX9_peg_13 : decode cX9_peg 13 = .ok (.iload 4, 2) := by decide +kernel
theorem dX9_peg_15 : decode cX9_peg 15 = .ok (.ireturn, 1) := by decide +kernel
theorem dX9_peg_16 : decode cX9_peg 16 = .ok (.aload_n 0, 1) := by decide +kernel
theorem dX9_peg_17 : decode cX9_peg 17 = .ok (.getfield 17, 3) := by decide +kernel
theorem dX9_peg_20 : decode cX9_peg 20 = .ok (.bipush 40, 2) := by decide +kernel
theorem dX9_peg_22 : decode cX9_peg 22 = .ok (.iload_n 1, 1) := by decide +kernel
theorem dX9_peg_23 : decode cX9_peg 23 = .ok (.imul, 1) := by decide +kernel
theorem dX9_peg_24 : decode cX9_peg 24 = .ok (.iload_n 2, 1) := by decide +kernel
theorem dX9_peg_25 : decode cX9_peg 25 = .ok (.iadd, 1) := by decide +kernel
theorem dX9_peg_26 : decode cX9_peg 26 = .ok (.iload_n 3, 1) := by decide +kernel
theorem dX9_peg_27 : decode cX9_peg 27 = .ok (.iastore, 1) := by decide +kernel
theorem dX9_peg_28 : decode cX9_peg 28 = .ok (.aload_n 0, 1) := by decide +kernel
theorem dX9_peg_29 : decode cX9_peg 29 = .ok (.iload_n 3, 1) := by decide +kernel
theorem dX9_peg_30 : decode cX9_peg 30 = .ok (.putfield 58, 3) := by decide +kernel
theorem dX9_peg_33 : decode cX9_peg 33 = .ok (.iconst 0, 1) := by decide +kernel
theorem dX9_peg_34 : decode cX9_peg 34 = .ok (.ireturn, 1) := by decide +kernel
theorem dX9_look_0 : decode cX9_look 0 = .ok (.aload_n 0, 1) := by decide +kernel
theorem dX9_look_1 : decode cX9_look 1 = .ok (.iload_n 1, 1) := by decide +kernel
theorem dX9_look_2 : decode cX9_look 2 = .ok (.iload_n 2, 1) := by decide +kernel
theorem dX9_look_3 : decode cX9_look 3 = .ok (.invokevirtual 91, 3) := by decide +kernel
theorem dX9_look_6 : decode cX9_look 6 = .ok (.istore_n 3, 1) := by decide +kernel
theorem dX9_look_7 : decode cX9_look 7 = .ok (.iload_n 3, 1) := by decide +kernel
theorem dX9_look_8 : decode cX9_look 8 = .ok (.ifCond .le 5, 3) := by decide +kernel
theorem dX9_look_11 : decode cX9_look 11 = .ok (.iload_n 3, 1) := by decide +kernel
theorem dX9_look_12 : decode cX9_look 12 = .ok (.ireturn, 1) := by decide +kernel
theorem dX9_look_13 : decode cX9_look 13 = .ok (.aload_n 0, 1) := by decide +kernel
theorem dX9_look_14 : decode cX9_look 14 = .ok (.aload_n 0, 1) := by decide +kernel
theorem dX9_look_15 : decode cX9_look 15 = .ok (.getfield 17, 3) := by decide +kernel
theorem dX9_look_18 : decode cX9_look 18 = .ok (.bipush 40, 2) := by decide +kernel
theorem dX9_look_20 : decode cX9_look 20 = .ok (.iload_n 1, 1) := by decide +kernel
theorem dX9_look_21 : decode cX9_look 21 = .ok (.imul, 1) := by decide +kernel
theorem dX9_look_22 : decode cX9_look 22 = .ok (.iload_n 2, 1) := by decide +kernel
theorem dX9_look_23 : decode cX9_look 23 = .ok (.iadd, 1) := by decide +kernel
theorem dX9_look_24 : decode cX9_look 24 = .ok (.iaload, 1) := by decide +kernel
theorem dX9_look_25 : decode cX9_look 25 = .ok (.putfield 58, 3) := by decide +kernel
theorem dX9_look_28 : decode cX9_look 28 = .ok (.iconst 0, 1) := by decide +kernel
theorem dX9_look_29 : decode cX9_look 29 = .ok (.ireturn, 1) := by decide +kernel
theorem dX9_take_0 : decode cX9_take 0 = .ok (.aload_n 0, 1) := by decide +kernel
theorem dX9_take_1 : decode cX9_take 1 = .ok (.getfield 77, 3) := by decide +kernel
theorem dX9_take_4 : decode cX9_take 4 = .ok (.ifCond .ne 5, 3) := by decide +kernel
theorem dX9_take_7 : decode cX9_take 7 = .ok (.iconst 2, 1) := by decide +kernel
theorem dX9_take_8 : decode cX9_take 8 = .ok (.ireturn, 1) := by decide +kernel
theorem dX9_take_9 : decode cX9_take 9 = .ok (.iload_n 1, 1) := by decide +kernel
theorem dX9_take_10 : decode cX9_take 10 = .ok (.ifCond .lt 11, 3) := by decide +kernel
theorem dX9_take_13 : decode cX9_take 13 = .ok (.iload_n 1, 1) := by decide +kernel
theorem dX9_take_14 : decode cX9_take 14 = .ok (.aload_n 0, 1) := by decide +kernel
theorem dX9_take_15 : decode cX9_take 15 = .ok (.getfield 81, 3) := by decide +kernel
theorem dX9_take_18 : decode cX9_take 18 = .ok (.if_icmp .lt 5, 3) := by decide +kernel
theorem dX9_take_21 : decode cX9_take 21 = .ok (.iconst 3, 1) := by decide +kernel
theorem dX9_take_22 : decode cX9_take 22 = .ok (.ireturn, 1) := by decide +kernel
theorem dX9_take_23 : decode cX9_take 23 = .ok (.aload_n 0, 1) := by decide +kernel
theorem dX9_take_24 : decode cX9_take 24 = .ok (.getfield 20, 3) := by decide +kernel
theorem dX9_take_27 : decode cX9_take 27 = .ok (.iload_n 1, 1) := by decide +kernel
theorem dX9_take_28 : decode cX9_take 28 = .ok (.iconst 1, 1) := by decide +kernel
theorem dX9_take_29 : decode cX9_take 29 = .ok (.bastore, 1) := by decide +kernel
theorem dX9_take_30 : decode cX9_take 30 = .ok (.iconst 0, 1) := by decide +kernel
theorem dX9_take_31 : decode cX9_take 31 = .ok (.ireturn, 1) := by decide +kernel
theorem dX9_width_0 : decode cX9_width 0 = .ok (.aload_n 0, 1) := by decide +kernel
theorem dX9_width_1 : decode cX9_width 1 = .ok (.iload_n 1, 1) := by decide +kernel
theorem dX9_width_2 : decode cX9_width 2 = .ok (.invokevirtual 87, 3) := by decide +kernel
theorem dX9_width_5 : decode cX9_width 5 = .ok (.istore_n 2, 1) := by decide +kernel
theorem dX9_width_6 : decode cX9_width 6 = .ok (.iload_n 2, 1) := by decide +kernel
theorem dX9_width_7 : decode cX9_width 7 = .ok (.ifCond .le 5, 3) := by decide +kernel
theorem dX9_width_10 : decode cX9_width 10 = .ok (.iload_n 2, 1) := by decide +kernel
theorem dX9_width_11 : decode cX9_width 11 = .ok (.ireturn, 1) := by decide +kernel
theorem dX9_width_12 : decode cX9_width 12 = .ok (.aload_n 0, 1) := by decide +kernel
theorem dX9_width_13 : decode cX9_width 13 = .ok (.aload_n 0, 1) := by decide +kernel
theorem dX9_width_14 : decode cX9_width 14 = .ok (.getfield 84, 3) := by decide +kernel
theorem dX9_width_17 : decode cX9_width 17 = .ok (.putfield 58, 3) := by decide +kernel
theorem dX9_width_20 : decode cX9_width 20 = .ok (.iconst 0, 1) := by decide +kernel
theorem dX9_width_21 : decode cX9_width 21 = .ok (.ireturn, 1) := by decide +kernel
theorem dX9_told_0 : decode cX9_told 0 = .ok (.aload_n 0, 1) := by decide +kernel
theorem dX9_told_1 : decode cX9_told 1 = .ok (.getfield 58, 3) := by decide +kernel
theorem dX9_told_4 : decode cX9_told 4 = .ok (.ireturn, 1) := by decide +kernel
theorem dX9_count_0 : decode cX9_count 0 = .ok (.iconst 0, 1) := by decide +kernel
theorem dX9_count_1 : decode cX9_count 1 = .ok (.istore_n 2, 1) := by decide +kernel
theorem dX9_count_2 : decode cX9_count 2 = .ok (.iload_n 1, 1) := by decide +kernel
theorem dX9_count_3 : decode cX9_count 3 = .ok (.ifCond .ne 35, 3) := by decide +kernel
theorem dX9_count_6 : decode cX9_count 6 = .ok (.iconst 0, 1) := by decide +kernel
theorem dX9_count_7 : decode cX9_count 7 = .ok (.istore_n 3, 1) := by decide +kernel
theorem dX9_count_8 : decode cX9_count 8 = .ok (.iload_n 3, 1) := by decide +kernel
theorem dX9_count_9 : decode cX9_count 9 = .ok (.iconst 5, 1) := by decide +kernel
theorem dX9_count_10 : decode cX9_count 10 = .ok (.if_icmp .ge 26, 3) := by decide +kernel
theorem dX9_count_13 : decode cX9_count 13 = .ok (.iload_n 2, 1) := by decide +kernel
theorem dX9_count_14 : decode cX9_count 14 = .ok (.aload_n 0, 1) := by decide +kernel
theorem dX9_count_15 : decode cX9_count 15 = .ok (.getfield 13, 3) := by decide +kernel
theorem dX9_count_18 : decode cX9_count 18 = .ok (.iload_n 3, 1) := by decide +kernel
theorem dX9_count_19 : decode cX9_count 19 = .ok (.iaload, 1) := by decide +kernel
theorem dX9_count_20 : decode cX9_count 20 = .ok (.ifCond .lt 7, 3) := by decide +kernel
theorem dX9_count_23 : decode cX9_count 23 = .ok (.iconst 1, 1) := by decide +kernel
theorem dX9_count_24 : decode cX9_count 24 = .ok (.goto 4, 3) := by decide +kernel
theorem dX9_count_27 : decode cX9_count 27 = .ok (.iconst 0, 1) := by decide +kernel
theorem dX9_count_28 : decode cX9_count 28 = .ok (.iadd, 1) := by decide +kernel
theorem dX9_count_29 : decode cX9_count 29 = .ok (.istore_n 2, 1) := by decide +kernel
theorem dX9_count_30 : decode cX9_count 30 = .ok (.iinc 3 1, 3) := by decide +kernel
theorem dX9_count_33 : decode cX9_count 33 = .ok (.goto (-25), 3) := by decide +kernel
theorem dX9_count_36 : decode cX9_count 36 = .ok (.iload_n 2, 1) := by decide +kernel
theorem dX9_count_37 : decode cX9_count 37 = .ok (.ireturn, 1) := by decide +kernel
theorem dX9_count_38 : decode cX9_count 38 = .ok (.iload_n 1, 1) := by decide +kernel
theorem dX9_count_39 : decode cX9_count 39 = .ok (.iconst 1, 1) := by decide +kernel
theorem dX9_count_40 : decode cX9_count 40 = .ok (.if_icmp .ne 19, 3) := by decide +kernel
theorem dX9_count_43 : decode cX9_count 43 = .ok (.aload_n 0, 1) := by decide +kernel
theorem dX9_count_44 : decode cX9_count 44 = .ok (.getfield 77, 3) := by decide +kernel
theorem dX9_count_47 : decode cX9_count 47 = .ok (.ifCond .eq 10, 3) := by decide +kernel
theorem dX9_count_50 : decode cX9_count 50 = .ok (.aload_n 0, 1) := by decide +kernel
theorem dX9_count_51 : decode cX9_count 51 = .ok (.getfield 81, 3) := by decide +kernel
theorem dX9_count_54 : decode cX9_count 54 = .ok (.goto 4, 3) := by decide +kernel
theorem dX9_count_57 : decode cX9_count 57 = .ok (.iconst (-1), 1) := by decide +kernel
theorem dX9_count_58 : decode cX9_count 58 = .ok (.ireturn, 1) := by decide +kernel
theorem dX9_count_59 : decode cX9_count 59 = .ok (.iconst 0, 1) := by decide +kernel
theorem dX9_count_60 : decode cX9_count 60 = .ok (.istore_n 3, 1) := by decide +kernel
theorem dX9_count_61 : decode cX9_count 61 = .ok (.iload_n 3, 1) := by decide +kernel
theorem dX9_count_62 : decode cX9_count 62 = .ok (.aload_n 0, 1) := by decide +kernel
theorem dX9_count_63 : decode cX9_count 63 = .ok (.getfield 81, 3) := by decide +kernel
theorem dX9_count_66 : decode cX9_count 66 = .ok (.if_icmp .ge 33, 3) := by decide +kernel
theorem dX9_count_69 : decode cX9_count 69 = .ok (.aload_n 0, 1) := by decide +kernel
theorem dX9_count_70 : decode cX9_count 70 = .ok (.getfield 77, 3) := by decide +kernel
theorem dX9_count_73 : decode cX9_count 73 = .ok (.ifCond .eq 26, 3) := by decide +kernel
theorem dX9_count_76 : decode cX9_count 76 = .ok (.iload_n 2, 1) := by decide +kernel
theorem dX9_count_77 : decode cX9_count 77 = .ok (.aload_n 0, 1) := by decide +kernel
theorem dX9_count_78 : decode cX9_count 78 = .ok (.getfield 20, 3) := by decide +kernel
theorem dX9_count_81 : decode cX9_count 81 = .ok (.iload_n 3, 1) := by decide +kernel
theorem dX9_count_82 : decode cX9_count 82 = .ok (.baload, 1) := by decide +kernel
theorem dX9_count_83 : decode cX9_count 83 = .ok (.ifCond .eq 7, 3) := by decide +kernel
theorem dX9_count_86 : decode cX9_count 86 = .ok (.iconst 1, 1) := by decide +kernel
theorem dX9_count_87 : decode cX9_count 87 = .ok (.goto 4, 3) := by decide +kernel
theorem dX9_count_90 : decode cX9_count 90 = .ok (.iconst 0, 1) := by decide +kernel
theorem dX9_count_91 : decode cX9_count 91 = .ok (.iadd, 1) := by decide +kernel
theorem dX9_count_92 : decode cX9_count 92 = .ok (.istore_n 2, 1) := by decide +kernel
theorem dX9_count_93 : decode cX9_count 93 = .ok (.iinc 3 1, 3) := by decide +kernel
theorem dX9_count_96 : decode cX9_count 96 = .ok (.goto (-35), 3) := by decide +kernel
theorem dX9_count_99 : decode cX9_count 99 = .ok (.iload_n 1, 1) := by decide +kernel
theorem dX9_count_100 : decode cX9_count 100 = .ok (.iconst 2, 1) := by decide +kernel
theorem dX9_count_101 : decode cX9_count 101 = .ok (.if_icmp .ne 7, 3) := by decide +kernel
theorem dX9_count_104 : decode cX9_count 104 = .ok (.iload_n 2, 1) := by decide +kernel
theorem dX9_count_105 : decode cX9_count 105 = .ok (.goto 4, 3) := by decide +kernel
theorem dX9_count_108 : decode cX9_count 108 = .ok (.iconst (-1), 1) := by decide +kernel
theorem dX9_count_109 : decode cX9_count 109 = .ok (.ireturn, 1) := by decide +kernel
