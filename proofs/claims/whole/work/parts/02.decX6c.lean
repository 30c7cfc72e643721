theorem dX6_shutBy_86 : decode cX6_shutBy 86 = .ok (.getfield 78, 3) := by decide +kernel
theorem dX6_shutBy_89 : decode cX6_shutBy 89 = .ok (.irem, 1) := by decide +kernel
theorem dX6_shutBy_90 : decode cX6_shutBy 90 = .ok (.invokevirtual 279, 3) := by decide +kernel
theorem dX6_shutBy_93 : decode cX6_shutBy 93 = .ok (.iinc 3 1, 3) := by decide +kernel
theorem dX6_shutBy_96 : decode cX6_shutBy 96 = .ok (.goto (-75), 3) := by decide +kernel
theorem dX6_shutBy_99 : decode cX6_shutBy 99 = .ok (.iload_n 2, 1) := by decide +kernel
theorem dX6_shutBy_100 : decode cX6_shutBy 100 = .ok (.ireturn, 1) := by decide +kernel
theorem dX6_swaps_0 : decode cX6_swaps 0 = .ok (.iconst 0, 1) := by decide +kernel
theorem dX6_swaps_1 : decode cX6_swaps 1 = .ok (.istore_n 1, 1) := by decide +kernel
theorem dX6_swaps_2 : decode cX6_swaps 2 = .ok (.iload_n 1, 1) := by decide +kernel
theorem dX6_swaps_3 : decode cX6_swaps 3 = .ok (.iconst 3, 1) := by decide +kernel
theorem dX6_swaps_4 : decode cX6_swaps 4 = .ok (.if_icmp .ge 19, 3) := by decide +kernel
theorem dX6_swaps_7 : decode cX6_swaps 7 = .ok (.aload_n 0, 1) := by decide +kernel
theorem dX6_swaps_8 : decode cX6_swaps 8 = .ok (.iload_n 1, 1) := by decide +kernel
theorem dX6_swaps_9 : decode cX6_swaps 9 = .ok (.invokevirtual 309, 3) := by decide +kernel
theorem dX6_swaps_12 : decode cX6_swaps 12 = .ok (.ifCond .eq 5, 3) := by decide +kernel
theorem dX6_swaps_15 : decode cX6_swaps 15 = .ok (.iload_n 1, 1) := by decide +kernel
theorem dX6_swaps_16 : decode cX6_swaps 16 = .ok (.ireturn, 1) := by decide +kernel
theorem dX6_swaps_17 : decode cX6_swaps 17 = .ok (.iinc 1 1, 3) := by decide +kernel
theorem dX6_swaps_20 : decode cX6_swaps 20 = .ok (.goto (-18), 3) := by decide +kernel
theorem dX6_swaps_23 : decode cX6_swaps 23 = .ok (.iconst (-1), 1) := by decide +kernel
theorem dX6_swaps_24 : decode cX6_swaps 24 = .ok (.ireturn, 1) := by decide +kernel
theorem dX6_lowest_0 : decode cX6_lowest 0 = .ok (.lload_n 0, 1) := by decide +kernel
theorem dX6_lowest_1 : decode cX6_lowest 1 = .ok (.lstore 5, 2) := by decide +kernel
theorem dX6_lowest_3 : decode cX6_lowest 3 = .ok (.lload_n 2, 1) := by decide +kernel
theorem dX6_lowest_4 : decode cX6_lowest 4 = .ok (.lstore 7, 2) := by decide +kernel
theorem dX6_lowest_6 : decode cX6_lowest 6 = .ok (.lload 7, 2) := by decide +kernel
theorem dX6_lowest_8 : decode cX6_lowest 8 = .ok (.lconst 0, 1) := by decide +kernel
theorem dX6_lowest_9 : decode cX6_lowest 9 = .ok (.lcmp, 1) := by decide +kernel
theorem dX6_lowest_10 : decode cX6_lowest 10 = .ok (.ifCond .eq 21, 3) := by decide +kernel
theorem dX6_lowest_13 : decode cX6_lowest 13 = .ok (.lload 5, 2) := by decide +kernel
theorem dX6_lowest_15 : decode cX6_lowest 15 = .ok (.lload 7, 2) := by decide +kernel
theorem dX6_lowest_17 : decode cX6_lowest 17 = .ok (.lrem, 1) := by decide +kernel
theorem dX6_lowest_18 : decode cX6_lowest 18 = .ok (.lstore 9, 2) := by decide +kernel
theorem dX6_lowest_20 : decode cX6_lowest 20 = .ok (.lload 7, 2) := by decide +kernel
theorem dX6_lowest_22 : decode cX6_lowest 22 = .ok (.lstore 5, 2) := by decide +kernel
theorem dX6_lowest_24 : decode cX6_lowest 24 = .ok (.lload 9, 2) := by decide +kernel
theorem dX6_lowest_26 : decode cX6_lowest 26 = .ok (.lstore 7, 2) := by decide +kernel
theorem dX6_lowest_28 : decode cX6_lowest 28 = .ok (.goto (-22), 3) := by decide +kernel
theorem dX6_lowest_31 : decode cX6_lowest 31 = .ok (.iload 4, 2) := by decide +kernel
theorem dX6_lowest_33 : decode cX6_lowest 33 = .ok (.ifCond .ne 10, 3) := by decide +kernel
theorem dX6_lowest_36 : decode cX6_lowest 36 = .ok (.lload_n 0, 1) := by decide +kernel
theorem dX6_lowest_37 : decode cX6_lowest 37 = .ok (.lload 5, 2) := by decide +kernel
theorem dX6_lowest_39 : decode cX6_lowest 39 = .ok (.ldiv, 1) := by decide +kernel
theorem dX6_lowest_40 : decode cX6_lowest 40 = .ok (.goto 7, 3) := by decide +kernel
theorem dX6_lowest_43 : decode cX6_lowest 43 = .ok (.lload_n 2, 1) := by decide +kernel
theorem dX6_lowest_44 : decode cX6_lowest 44 = .ok (.lload 5, 2) := by decide +kernel
theorem dX6_lowest_46 : decode cX6_lowest 46 = .ok (.ldiv, 1) := by decide +kernel
theorem dX6_lowest_47 : decode cX6_lowest 47 = .ok (.lreturn, 1) := by decide +kernel
theorem dX6_mean_0 : decode cX6_mean 0 = .ok (.iload_n 1, 1) := by decide +kernel
theorem dX6_mean_1 : decode cX6_mean 1 = .ok (.i2l, 1) := by decide +kernel
theorem dX6_mean_2 : decode cX6_mean 2 = .ok (.lconst 0, 1) := by decide +kernel
theorem dX6_mean_3 : decode cX6_mean 3 = .ok (.lconst 1, 1) := by decide +kernel
theorem dX6_mean_4 : decode cX6_mean 4 = .ok (.invokestatic 70, 3) := by decide +kernel
theorem dX6_mean_7 : decode cX6_mean 7 = .ok (.ifCond .eq 10, 3) := by decide +kernel
theorem dX6_mean_10 : decode cX6_mean 10 = .ok (.aload_n 0, 1) := by decide +kernel
theorem dX6_mean_11 : decode cX6_mean 11 = .ok (.getfield 78, 3) := by decide +kernel
theorem dX6_mean_14 : decode cX6_mean 14 = .ok (.ifCond .ne 7, 3) := by decide +kernel
theorem dX6_mean_17 : decode cX6_mean 17 = .ok (.ldc2_w 312, 3) := by decide +kernel
theorem dX6_mean_20 : decode cX6_mean 20 = .ok (.lreturn, 1) := by decide +kernel
theorem dX6_mean_21 : decode cX6_mean 21 = .ok (.iconst 0, 1) := by decide +kernel
theorem dX6_mean_22 : decode cX6_mean 22 = .ok (.istore_n 2, 1) := by decide +kernel
theorem dX6_mean_23 : decode cX6_mean 23 = .ok (.iconst 0, 1) := by decide +kernel
theorem dX6_mean_24 : decode cX6_mean 24 = .ok (.istore_n 3, 1) := by decide +kernel
theorem dX6_mean_25 : decode cX6_mean 25 = .ok (.iload_n 3, 1) := by decide +kernel
theorem dX6_mean_26 : decode cX6_mean 26 = .ok (.aload_n 0, 1) := by decide +kernel
theorem dX6_mean_27 : decode cX6_mean 27 = .ok (.getfield 78, 3) := by decide +kernel
theorem dX6_mean_30 : decode cX6_mean 30 = .ok (.if_icmp .ge 27, 3) := by decide +kernel
theorem dX6_mean_33 : decode cX6_mean 33 = .ok (.iload_n 2, 1) := by decide +kernel
theorem dX6_mean_34 : decode cX6_mean 34 = .ok (.aload_n 0, 1) := by decide +kernel
theorem dX6_mean_35 : decode cX6_mean 35 = .ok (.getfield 23, 3) := by decide +kernel
theorem dX6_mean_38 : decode cX6_mean 38 = .ok (.iconst 3, 1) := by decide +kernel
theorem dX6_mean_39 : decode cX6_mean 39 = .ok (.aload_n 0, 1) := by decide +kernel
theorem dX6_mean_40 : decode cX6_mean 40 = .ok (.getfield 26, 3) := by decide +kernel
theorem dX6_mean_43 : decode cX6_mean 43 = .ok (.iload_n 3, 1) := by decide +kernel
theorem dX6_mean_44 : decode cX6_mean 44 = .ok (.iaload, 1) := by decide +kernel
theorem dX6_mean_45 : decode cX6_mean 45 = .ok (.imul, 1) := by decide +kernel
theorem dX6_mean_46 : decode cX6_mean 46 = .ok (.iconst 1, 1) := by decide +kernel
theorem dX6_mean_47 : decode cX6_mean 47 = .ok (.iadd, 1) := by decide +kernel
theorem dX6_mean_48 : decode cX6_mean 48 = .ok (.iaload, 1) := by decide +kernel
theorem dX6_mean_49 : decode cX6_mean 49 = .ok (.iadd, 1) := by decide +kernel
theorem dX6_mean_50 : decode cX6_mean 50 = .ok (.istore_n 2, 1) := by decide +kernel
theorem dX6_mean_51 : decode cX6_mean 51 = .ok (.iinc 3 1, 3) := by decide +kernel
theorem dX6_mean_54 : decode cX6_mean 54 = .ok (.goto (-29), 3) := by decide +kernel
theorem dX6_mean_57 : decode cX6_mean 57 = .ok (.iload_n 2, 1) := by decide +kernel
theorem dX6_mean_58 : decode cX6_mean 58 = .ok (.i2l, 1) := by decide +kernel
theorem dX6_mean_59 : decode cX6_mean 59 = .ok (.aload_n 0, 1) := by decide +kernel
theorem dX6_mean_60 : decode cX6_mean 60 = .ok (.getfield 78, 3) := by decide +kernel
theorem dX6_mean_63 : decode cX6_mean 63 = .ok (.i2l, 1) := by decide +kernel
theorem dX6_mean_64 : decode cX6_mean 64 = .ok (.iload_n 1, 1) := by decide +kernel
theorem dX6_mean_65 : decode cX6_mean 65 = .ok (.invokestatic 314, 3) := by decide +kernel
theorem dX6_mean_68 : decode cX6_mean 68 = .ok (.lreturn, 1) := by decide +kernel
theorem dX6_firstOther_0 : decode cX6_firstOther 0 = .ok (.iconst 0, 1) := by decide +kernel
theorem dX6_firstOther_1 : decode cX6_firstOther 1 = .ok (.istore_n 2, 1) := by decide +kernel
theorem dX6_firstOther_2 : decode cX6_firstOther 2 = .ok (.iload_n 2, 1) := by decide +kernel
theorem dX6_firstOther_3 : decode cX6_firstOther 3 = .ok (.aload_n 0, 1) := by decide +kernel
theorem dX6_firstOther_4 : decode cX6_firstOther 4 = .ok (.getfield 54, 3) := by decide +kernel
theorem dX6_firstOther_7 : decode cX6_firstOther 7 = .ok (.iload_n 1, 1) := by decide +kernel
theorem dX6_firstOther_8 : decode cX6_firstOther 8 = .ok (.iaload, 1) := by decide +kernel
theorem dX6_firstOther_9 : decode cX6_firstOther 9 = .ok (.if_icmp .ge 46, 3) := by decide +kernel
theorem dX6_firstOther_12 : decode cX6_firstOther 12 = .ok (.iload_n 2, 1) := by decide +kernel
theorem dX6_firstOther_13 : decode cX6_firstOther 13 = .ok (.aload_n 0, 1) := by decide +kernel
theorem dX6_firstOther_14 : decode cX6_firstOther 14 = .ok (.getfield 78, 3) := by decide +kernel
theorem dX6_firstOther_17 : decode cX6_firstOther 17 = .ok (.if_icmp .ge 30, 3) := by decide +kernel
theorem dX6_firstOther_20 : decode cX6_firstOther 20 = .ok (.aload_n 0, 1) := by decide +kernel
theorem dX6_firstOther_21 : decode cX6_firstOther 21 = .ok (.getfield 78, 3) := by decide +kernel
theorem dX6_firstOther_24 : decode cX6_firstOther 24 = .ok (.iconst 2, 1) := by decide +kernel
theorem dX6_firstOther_25 : decode cX6_firstOther 25 = .ok (.if_icmp .lt 22, 3) := by decide +kernel
theorem dX6_firstOther_28 : decode cX6_firstOther 28 = .ok (.aload_n 0, 1) := by decide +kernel
theorem dX6_firstOther_29 : decode cX6_firstOther 29 = .ok (.iload_n 2, 1) := by decide +kernel
theorem dX6_firstOther_30 : decode cX6_firstOther 30 = .ok (.invokevirtual 125, 3) := by decide +kernel
theorem dX6_firstOther_33 : decode cX6_firstOther 33 = .ok (.aload_n 0, 1) := by decide +kernel
theorem dX6_firstOther_34 : decode cX6_firstOther 34 = .ok (.getfield 57, 3) := by decide +kernel
theorem dX6_firstOther_37 : decode cX6_firstOther 37 = .ok (.bipush 40, 2) := by decide +kernel
theorem dX6_firstOther_39 : decode cX6_firstOther 39 = .ok (.iload_n 1, 1) := by decide +kernel
theorem dX6_firstOther_40 : decode cX6_firstOther 40 = .ok (.imul, 1) := by decide +kernel
theorem dX6_firstOther_41 : decode cX6_firstOther 41 = .ok (.iload_n 2, 1) := by decide +kernel
theorem dX6_firstOther_42 : decode cX6_firstOther 42 = .ok (.iadd, 1) := by decide +kernel
theorem dX6_firstOther_43 : decode cX6_firstOther 43 = .ok (.iaload, 1) := by decide +kernel
theorem dX6_firstOther_44 : decode cX6_firstOther 44 = .ok (.if_icmp .eq 5, 3) := by decide +kernel
theorem dX6_firstOther_47 : decode cX6_firstOther 47 = .ok (.iload_n 2, 1) := by decide +kernel
theorem dX6_firstOther_48 : decode cX6_firstOther 48 = .ok (.ireturn, 1) := by decide +kernel
theorem dX6_firstOther_49 : decode cX6_firstOther 49 = .ok (.iinc 2 1, 3) := by decide +kernel
theorem dX6_firstOther_52 : decode cX6_firstOther 52 = .ok (.goto (-50), 3) := by decide +kernel
theorem dX6_firstOther_55 : decode cX6_firstOther 55 = .ok (.iconst (-1), 1) := by decide +kernel
theorem dX6_firstOther_56 : decode cX6_firstOther 56 = .ok (.ireturn, 1) := by decide +kernel
theorem dX6_tells_0 : decode cX6_tells 0 = .ok (.iload_n 1, 1) := by decide +kernel
theorem dX6_tells_1 : decode cX6_tells 1 = .ok (.invokestatic 318, 3) := by decide +kernel
theorem dX6_tells_4 : decode cX6_tells 4 = .ok (.ifCond .eq 23, 3) := by decide +kernel
theorem dX6_tells_7 : decode cX6_tells 7 = .ok (.aload_n 0, 1) := by decide +kernel
theorem dX6_tells_8 : decode cX6_tells 8 = .ok (.iload_n 2, 1) := by decide +kernel
theorem dX6_tells_9 : decode cX6_tells 9 = .ok (.invokevirtual 74, 3) := by decide +kernel
theorem dX6_tells_12 : decode cX6_tells 12 = .ok (.ifCond .eq 15, 3) := by decide +kernel
theorem dX6_tells_15 : decode cX6_tells 15 = .ok (.iload_n 3, 1) := by decide +kernel
theorem dX6_tells_16 : decode cX6_tells 16 = .ok (.i2l, 1) := by decide +kernel
theorem dX6_tells_17 : decode cX6_tells 17 = .ok (.lconst 0, 1) := by decide +kernel
theorem dX6_tells_18 : decode cX6_tells 18 = .ok (.ldc2_w 321, 3) := by decide +kernel
theorem dX6_tells_21 : decode cX6_tells 21 = .ok (.invokestatic 70, 3) := by decide +kernel
theorem dX6_tells_24 : decode cX6_tells 24 = .ok (.ifCond .ne 6, 3) := by decide +kernel
theorem dX6_tells_27 : decode cX6_tells 27 = .ok (.bipush (-2), 2) := by decide +kernel
theorem dX6_tells_29 : decode cX6_tells 29 = .ok (.ireturn, 1) := by decide +kernel
theorem dX6_tells_30 : decode cX6_tells 30 = .ok (.aload_n 0, 1) := by decide +kernel
theorem dX6_tells_31 : decode cX6_tells 31 = .ok (.getfield 47, 3) := by decide +kernel
theorem dX6_tells_34 : decode cX6_tells 34 = .ok (.iload_n 1, 1) := by decide +kernel
theorem dX6_tells_35 : decode cX6_tells 35 = .ok (.baload, 1) := by decide +kernel
theorem dX6_tells_36 : decode cX6_tells 36 = .ok (.ifCond .ne 6, 3) := by decide +kernel
theorem dX6_tells_39 : decode cX6_tells 39 = .ok (.bipush (-11), 2) := by decide +kernel
theorem dX6_tells_41 : decode cX6_tells 41 = .ok (.ireturn, 1) := by decide +kernel
theorem dX6_tells_42 : decode cX6_tells 42 = .ok (.aload_n 0, 1) := by decide +kernel
theorem dX6_tells_43 : decode cX6_tells 43 = .ok (.getfield 54, 3) := by decide +kernel
theorem dX6_tells_46 : decode cX6_tells 46 = .ok (.iload_n 1, 1) := by decide +kernel
theorem dX6_tells_47 : decode cX6_tells 47 = .ok (.iaload, 1) := by decide +kernel
theorem dX6_tells_48 : decode cX6_tells 48 = .ok (.bipush 6, 2) := by decide +kernel
theorem dX6_tells_50 : decode cX6_tells 50 = .ok (.if_icmp .le 6, 3) := by decide +kernel
theorem dX6_tells_53 : decode cX6_tells 53 = .ok (.bipush (-2), 2) := by decide +kernel
theorem dX6_tells_55 : decode cX6_tells 55 = .ok (.ireturn, 1) := by decide +kernel
theorem dX6_tells_56 : decode cX6_tells 56 = .ok (.iload_n 3, 1) := by decide +kernel
theorem dX6_tells_57 : decode cX6_tells 57 = .ok (.ifCond .ne 9, 3) := by decide +kernel
theorem dX6_tells_60 : decode cX6_tells 60 = .ok (.aload_n 0, 1) := by decide +kernel
theorem dX6_tells_61 : decode cX6_tells 61 = .ok (.iload_n 1, 1) := by decide +kernel
theorem dX6_tells_62 : decode cX6_tells 62 = .ok (.invokevirtual 323, 3) := by decide +kernel
theorem dX6_tells_65 : decode cX6_tells 65 = .ok (.ireturn, 1) := by decide +kernel
theorem dX6_tells_66 : decode cX6_tells 66 = .ok (.iload_n 3, 1) := by decide +kernel
theorem dX6_tells_67 : decode cX6_tells 67 = .ok (.iconst 1, 1) := by decide +kernel
theorem dX6_tells_68 : decode cX6_tells 68 = .ok (.if_icmp .ne 7, 3) := by decide +kernel
theorem dX6_tells_71 : decode cX6_tells 71 = .ok (.iconst 4, 1) := by decide +kernel
theorem dX6_tells_72 : decode cX6_tells 72 = .ok (.goto 32, 3) := by decide +kernel
theorem dX6_tells_75 : decode cX6_tells 75 = .ok (.iload_n 3, 1) := by decide +kernel
theorem dX6_tells_76 : decode cX6_tells 76 = .ok (.iconst 2, 1) := by decide +kernel
theorem dX6_tells_77 : decode cX6_tells 77 = .ok (.if_icmp .ne 7, 3) := by decide +kernel
theorem dX6_tells_80 : decode cX6_tells 80 = .ok (.iconst 2, 1) := by decide +kernel
theorem dX6_tells_81 : decode cX6_tells 81 = .ok (.goto 23, 3) := by decide +kernel
theorem dX6_tells_84 : decode cX6_tells 84 = .ok (.iload_n 3, 1) := by decide +kernel
theorem dX6_tells_85 : decode cX6_tells 85 = .ok (.iconst 5, 1) := by decide +kernel
theorem dX6_tells_86 : decode cX6_tells 86 = .ok (.if_icmp .ge 7, 3) := by decide +kernel
theorem dX6_tells_89 : decode cX6_tells 89 = .ok (.iconst 3, 1) := by decide +kernel
theorem dX6_tells_90 : decode cX6_tells 90 = .ok (.goto 14, 3) := by decide +kernel
theorem dX6_tells_93 : decode cX6_tells 93 = .ok (.iload_n 3, 1) := by decide +kernel
theorem dX6_tells_94 : decode cX6_tells 94 = .ok (.bipush 7, 2) := by decide +kernel
theorem dX6_tells_96 : decode cX6_tells 96 = .ok (.if_icmp .ge 7, 3) := by decide +kernel
theorem dX6_tells_99 : decode cX6_tells 99 = .ok (.iconst 1, 1) := by decide +kernel
theorem dX6_tells_100 : decode cX6_tells 100 = .ok (.goto 4, 3) := by decide +kernel
theorem dX6_tells_103 : decode cX6_tells 103 = .ok (.iconst 5, 1) := by decide +kernel
theorem dX6_tells_104 : decode cX6_tells 104 = .ok (.istore 4, 2) := by decide +kernel
theorem dX6_tells_106 : decode cX6_tells 106 = .ok (.iload 4, 2) := by decide +kernel
theorem dX6_tells_108 : decode cX6_tells 108 = .ok (.iconst 5, 1) := by decide +kernel
theorem dX6_tells_109 : decode cX6_tells 109 = .ok (.if_icmp .ne 10, 3) := by decide +kernel
theorem dX6_tells_112 : decode cX6_tells 112 = .ok (.aload_n 0, 1) := by decide +kernel
theorem dX6_tells_113 : decode cX6_tells 113 = .ok (.getfield 108, 3) := by decide +kernel
theorem dX6_tells_116 : decode cX6_tells 116 = .ok (.goto 10, 3) := by decide +kernel
theorem dX6_tells_119 : decode cX6_tells 119 = .ok (.aload_n 0, 1) := by decide +kernel
theorem dX6_tells_120 : decode cX6_tells 120 = .ok (.iload_n 2, 1) := by decide +kernel
theorem dX6_tells_121 : decode cX6_tells 121 = .ok (.iload 4, 2) := by decide +kernel
theorem dX6_tells_123 : decode cX6_tells 123 = .ok (.invokevirtual 94, 3) := by decide +kernel
theorem dX6_tells_126 : decode cX6_tells 126 = .ok (.istore 5, 2) := by decide +kernel
theorem dX6_tells_128 : decode cX6_tells 128 = .ok (.iload 4, 2) := by decide +kernel
theorem dX6_tells_130 : decode cX6_tells 130 = .ok (.iconst 5, 1) := by decide +kernel
theorem dX6_tells_131 : decode cX6_tells 131 = .ok (.if_icmp .ne 12, 3) := by decide +kernel
theorem dX6_tells_134 : decode cX6_tells 134 = .ok (.aload_n 0, 1) := by decide +kernel
theorem dX6_tells_135 : decode cX6_tells 135 = .ok (.getfield 64, 3) := by decide +kernel
theorem dX6_tells_138 : decode cX6_tells 138 = .ok (.iconst 1, 1) := by decide +kernel
theorem dX6_tells_139 : decode cX6_tells 139 = .ok (.isub, 1) := by decide +kernel
theorem dX6_tells_140 : decode cX6_tells 140 = .ok (.goto 26, 3) := by decide +kernel
theorem dX6_tells_143 : decode cX6_tells 143 = .ok (.iload 4, 2) := by decide +kernel
theorem dX6_tells_145 : decode cX6_tells 145 = .ok (.iconst 4, 1) := by decide +kernel
theorem dX6_tells_146 : decode cX6_tells 146 = .ok (.if_icmp .ne 7, 3) := by decide +kernel
theorem dX6_tells_149 : decode cX6_tells 149 = .ok (.iconst 5, 1) := by decide +kernel
theorem dX6_tells_150 : decode cX6_tells 150 = .ok (.goto 16, 3) := by decide +kernel
theorem dX6_tells_153 : decode cX6_tells 153 = .ok (.iload 4, 2) := by decide +kernel
theorem dX6_tells_155 : decode cX6_tells 155 = .ok (.iconst 2, 1) := by decide +kernel
theorem dX6_tells_156 : decode cX6_tells 156 = .ok (.if_icmp .ne 8, 3) := by decide +kernel
theorem dX6_tells_159 : decode cX6_tells 159 = .ok (.bipush 9, 2) := by decide +kernel
theorem dX6_tells_161 : decode cX6_tells 161 = .ok (.goto 5, 3) := by decide +kernel
theorem dX6_tells_164 : decode cX6_tells 164 = .ok (.bipush 99, 2) := by decide +kernel
theorem dX6_tells_166 : decode cX6_tells 166 = .ok (.istore 6, 2) := by decide +kernel
theorem dX6_tells_168 : decode cX6_tells 168 = .ok (.iconst 0, 1) := by decide +kernel
theorem dX6_tells_169 : decode cX6_tells 169 = .ok (.istore 7, 2) := by decide +kernel
theorem dX6_tells_171 : decode cX6_tells 171 = .ok (.iconst 0, 1) := by decide +kernel
theorem dX6_tells_172 : decode cX6_tells 172 = .ok (.istore 8, 2) := by decide +kernel
theorem dX6_tells_174 : decode cX6_tells 174 = .ok (.iconst (-1), 1) := by decide +kernel
theorem dX6_tells_175 : decode cX6_tells 175 = .ok (.istore 9, 2) := by decide +kernel
theorem dX6_tells_177 : decode cX6_tells 177 = .ok (.iload 6, 2) := by decide +kernel
theorem dX6_tells_179 : decode cX6_tells 179 = .ok (.istore 10, 2) := by decide +kernel
theorem dX6_tells_181 : decode cX6_tells 181 = .ok (.iload 10, 2) := by decide +kernel
theorem dX6_tells_183 : decode cX6_tells 183 = .ok (.ifCond .lt 54, 3) := by decide +kernel
theorem dX6_tells_186 : decode cX6_tells 186 = .ok (.aload_n 0, 1) := by decide +kernel
theorem dX6_tells_187 : decode cX6_tells 187 = .ok (.iload 4, 2) := by decide +kernel
theorem dX6_tells_189 : decode cX6_tells 189 = .ok (.iload_n 2, 1) := by decide +kernel
theorem dX6_tells_190 : decode cX6_tells 190 = .ok (.iload 10, 2) := by decide +kernel
theorem dX6_tells_192 : decode cX6_tells 192 = .ok (.invokevirtual 98, 3) := by decide +kernel
theorem dX6_tells_195 : decode cX6_tells 195 = .ok (.aload_n 0, 1) := by decide +kernel
theorem dX6_tells_196 : decode cX6_tells 196 = .ok (.iload_n 1, 1) := by decide +kernel
theorem dX6_tells_197 : decode cX6_tells 197 = .ok (.invokevirtual 323, 3) := by decide +kernel
theorem dX6_tells_200 : decode cX6_tells 200 = .ok (.iconst (-1), 1) := by decide +kernel
theorem dX6_tells_201 : decode cX6_tells 201 = .ok (.if_icmp .ne 30, 3) := by decide +kernel
theorem dX6_tells_204 : decode cX6_tells 204 = .ok (.iload 7, 2) := by decide +kernel
theorem dX6_tells_206 : decode cX6_tells 206 = .ok (.iload 10, 2) := by decide +kernel
theorem dX6_tells_208 : decode cX6_tells 208 = .ok (.bipush 10, 2) := by decide +kernel
theorem dX6_tells_210 : decode cX6_tells 210 = .ok (.if_icmp .ge 10, 3) := by decide +kernel
theorem dX6_tells_213 : decode cX6_tells 213 = .ok (.iconst 1, 1) := by decide +kernel
theorem dX6_tells_214 : decode cX6_tells 214 = .ok (.iload 10, 2) := by decide +kernel
theorem dX6_tells_216 : decode cX6_tells 216 = .ok (.ishl, 1) := by decide +kernel
theorem dX6_tells_217 : decode cX6_tells 217 = .ok (.goto 4, 3) := by decide +kernel
theorem dX6_tells_220 : decode cX6_tells 220 = .ok (.iconst 0, 1) := by decide +kernel
theorem dX6_tells_221 : decode cX6_tells 221 = .ok (.ior, 1) := by decide +kernel
theorem dX6_tells_222 : decode cX6_tells 222 = .ok (.istore 7, 2) := by decide +kernel
theorem dX6_tells_224 : decode cX6_tells 224 = .ok (.iinc 8 1, 3) := by decide +kernel
theorem dX6_tells_227 : decode cX6_tells 227 = .ok (.iload 10, 2) := by decide +kernel
theorem dX6_tells_229 : decode cX6_tells 229 = .ok (.istore 9, 2) := by decide +kernel
theorem dX6_tells_231 : decode cX6_tells 231 = .ok (.iinc 10 (-1), 3) := by decide +kernel
theorem dX6_tells_234 : decode cX6_tells 234 = .ok (.goto (-53), 3) := by decide +kernel
theorem dX6_tells_237 : decode cX6_tells 237 = .ok (.aload_n 0, 1) := by decide +kernel
theorem dX6_tells_238 : decode cX6_tells 238 = .ok (.iload 4, 2) := by decide +kernel
theorem dX6_tells_240 : decode cX6_tells 240 = .ok (.iload_n 2, 1) := by decide +kernel
theorem dX6_tells_241 : decode cX6_tells 241 = .ok (.iload 5, 2) := by decide +kernel
theorem dX6_tells_243 : decode cX6_tells 243 = .ok (.invokevirtual 98, 3) := by decide +kernel
theorem dX6_tells_246 : decode cX6_tells 246 = .ok (.iload_n 3, 1) := by decide +kernel
theorem dX6_tells_247 : decode cX6_tells 247 = .ok (.iconst 3, 1) := by decide +kernel
theorem dX6_tells_248 : decode cX6_tells 248 = .ok (.if_icmp .eq 8, 3) := by decide +kernel
theorem dX6_tells_251 : decode cX6_tells 251 = .ok (.iload_n 3, 1) := by decide +kernel
theorem dX6_tells_252 : decode cX6_tells 252 = .ok (.iconst 5, 1) := by decide +kernel
theorem dX6_tells_253 : decode cX6_tells 253 = .ok (.if_icmp .ne 8, 3) := by decide +kernel
theorem dX6_tells_256 : decode cX6_tells 256 = .ok (.iload 8, 2) := by decide +kernel
theorem dX6_tells_258 : decode cX6_tells 258 = .ok (.goto 21, 3) := by decide +kernel
theorem dX6_tells_261 : decode cX6_tells 261 = .ok (.iload_n 3, 1) := by decide +kernel
theorem dX6_tells_262 : decode cX6_tells 262 = .ok (.iconst 4, 1) := by decide +kernel
theorem dX6_tells_263 : decode cX6_tells 263 = .ok (.if_icmp .eq 9, 3) := by decide +kernel
theorem dX6_tells_266 : decode cX6_tells 266 = .ok (.iload_n 3, 1) := by decide +kernel
theorem dX6_tells_267 : decode cX6_tells 267 = .ok (.bipush 6, 2) := by decide +kernel
theorem dX6_tells_269 : decode cX6_tells 269 = .ok (.if_icmp .ne 8, 3) := by decide +kernel
theorem dX6_tells_272 : decode cX6_tells 272 = .ok (.iload 9, 2) := by decide +kernel
theorem dX6_tells_274 : decode cX6_tells 274 = .ok (.goto 5, 3) := by decide +kernel
theorem dX6_tells_277 : decode cX6_tells 277 = .ok (.iload 7, 2) := by decide +kernel
theorem dX6_tells_279 : decode cX6_tells 279 = .ok (.ireturn, 1) := by decide +kernel
theorem dX6_film_0 : decode cX6_film 0 = .ok (.iload_n 1, 1) := by decide +kernel
theorem dX6_film_1 : decode cX6_film 1 = .ok (.invokestatic 318, 3) := by decide +kernel
theorem dX6_film_4 : decode cX6_film 4 = .ok (.ifCond .ne 6, 3) := by decide +kernel
theorem dX6_film_7 : decode cX6_film 7 = .ok (.bipush (-2), 2) := by decide +kernel
theorem dX6_film_9 : decode cX6_film 9 = .ok (.ireturn, 1) := by decide +kernel
theorem dX6_film_10 : decode cX6_film 10 = .ok (.aload_n 0, 1) := by decide +kernel
theorem dX6_film_11 : decode cX6_film 11 = .ok (.getfield 78, 3) := by decide +kernel
theorem dX6_film_14 : decode cX6_film 14 = .ok (.iconst 1, 1) := by decide +kernel
theorem dX6_film_15 : decode cX6_film 15 = .ok (.if_icmp .le 10, 3) := by decide +kernel
theorem dX6_film_18 : decode cX6_film 18 = .ok (.aload_n 0, 1) := by decide +kernel
theorem dX6_film_19 : decode cX6_film 19 = .ok (.getfield 78, 3) := by decide +kernel
theorem dX6_film_22 : decode cX6_film 22 = .ok (.goto 4, 3) := by decide +kernel
theorem dX6_film_25 : decode cX6_film 25 = .ok (.iconst 0, 1) := by decide +kernel
theorem dX6_film_26 : decode cX6_film 26 = .ok (.istore_n 2, 1) := by decide +kernel
theorem dX6_film_27 : decode cX6_film 27 = .ok (.aload_n 0, 1) := by decide +kernel
theorem dX6_film_28 : decode cX6_film 28 = .ok (.iload_n 1, 1) := by decide +kernel
theorem dX6_film_29 : decode cX6_film 29 = .ok (.iconst 0, 1) := by decide +kernel
theorem dX6_film_30 : decode cX6_film 30 = .ok (.iload_n 2, 1) := by decide +kernel
theorem dX6_film_31 : decode cX6_film 31 = .ok (.invokevirtual 326, 3) := by decide +kernel
theorem dX6_film_34 : decode cX6_film 34 = .ok (.pop, 1) := by decide +kernel
theorem dX6_film_35 : decode cX6_film 35 = .ok (.iconst 0, 1) := by decide +kernel
theorem dX6_film_36 : decode cX6_film 36 = .ok (.istore_n 3, 1) := by decide +kernel
theorem dX6_film_37 : decode cX6_film 37 = .ok (.iload_n 3, 1) := by decide +kernel
theorem dX6_film_38 : decode cX6_film 38 = .ok (.iload_n 2, 1) := by decide +kernel
theorem dX6_film_39 : decode cX6_film 39 = .ok (.if_icmp .ge 25, 3) := by decide +kernel
theorem dX6_film_42 : decode cX6_film 42 = .ok (.aload_n 0, 1) := by decide +kernel
theorem dX6_film_43 : decode cX6_film 43 = .ok (.getfield 57, 3) := by decide +kernel
theorem dX6_film_46 : decode cX6_film 46 = .ok (.bipush 40, 2) := by decide +kernel
theorem dX6_film_48 : decode cX6_film 48 = .ok (.iload_n 1, 1) := by decide +kernel
theorem dX6_film_49 : decode cX6_film 49 = .ok (.imul, 1) := by decide +kernel
theorem dX6_film_50 : decode cX6_film 50 = .ok (.iload_n 3, 1) := by decide +kernel
theorem dX6_film_51 : decode cX6_film 51 = .ok (.iadd, 1) := by decide +kernel
theorem dX6_film_52 : decode cX6_film 52 = .ok (.aload_n 0, 1) := by decide +kernel
theorem dX6_film_53 : decode cX6_film 53 = .ok (.iload_n 3, 1) := by decide +kernel
theorem dX6_film_54 : decode cX6_film 54 = .ok (.invokevirtual 125, 3) := by decide +kernel
theorem dX6_film_57 : decode cX6_film 57 = .ok (.iastore, 1) := by decide +kernel
theorem dX6_film_58 : decode cX6_film 58 = .ok (.iinc 3 1, 3) := by decide +kernel
theorem dX6_film_61 : decode cX6_film 61 = .ok (.goto (-24), 3) := by decide +kernel
theorem dX6_film_64 : decode cX6_film 64 = .ok (.iload_n 2, 1) := by decide +kernel
theorem dX6_film_65 : decode cX6_film 65 = .ok (.ireturn, 1) := by decide +kernel
theorem dX6_weakestDrawn_0 : decode cX6_weakestDrawn 0 = .ok (.iconst 0, 1) := by decide +kernel
theorem dX6_weakestDrawn_1 : decode cX6_weakestDrawn 1 = .ok (.istore_n 3, 1) := by decide +kernel
theorem dX6_weakestDrawn_2 : decode cX6_weakestDrawn 2 = .ok (.iload_n 3, 1) := by decide +kernel
theorem dX6_weakestDrawn_3 : decode cX6_weakestDrawn 3 = .ok (.aload_n 0, 1) := by decide +kernel
theorem dX6_weakestDrawn_4 : decode cX6_weakestDrawn 4 = .ok (.getfield 78, 3) := by decide +kernel
theorem dX6_weakestDrawn_7 : decode cX6_weakestDrawn 7 = .ok (.if_icmp .ge 21, 3) := by decide +kernel
theorem dX6_weakestDrawn_10 : decode cX6_weakestDrawn 10 = .ok (.aload_n 0, 1) := by decide +kernel
theorem dX6_weakestDrawn_11 : decode cX6_weakestDrawn 11 = .ok (.getfield 35, 3) := by decide +kernel
theorem dX6_weakestDrawn_14 : decode cX6_weakestDrawn 14 = .ok (.iload_n 3, 1) := by decide +kernel
theorem dX6_weakestDrawn_15 : decode cX6_weakestDrawn 15 = .ok (.aload_n 0, 1) := by decide +kernel
theorem dX6_weakestDrawn_16 : decode cX6_weakestDrawn 16 = .ok (.getfield 26, 3) := by decide +kernel
theorem dX6_weakestDrawn_19 : decode cX6_weakestDrawn 19 = .ok (.iload_n 3, 1) := by decide +kernel
theorem dX6_weakestDrawn_20 : decode cX6_weakestDrawn 20 = .ok (.iaload, 1) := by decide +kernel
theorem dX6_weakestDrawn_21 : decode cX6_weakestDrawn 21 = .ok (.iastore, 1) := by decide +kernel
theorem dX6_weakestDrawn_22 : decode cX6_weakestDrawn 22 = .ok (.iinc 3 1, 3) := by decide +kernel
theorem dX6_weakestDrawn_25 : decode cX6_weakestDrawn 25 = .ok (.goto (-23), 3) := by decide +kernel
theorem dX6_weakestDrawn_28 : decode cX6_weakestDrawn 28 = .ok (.iload_n 1, 1) := by decide +kernel
theorem dX6_weakestDrawn_29 : decode cX6_weakestDrawn 29 = .ok (.istore_n 3, 1) := by decide +kernel
theorem dX6_weakestDrawn_30 : decode cX6_weakestDrawn 30 = .ok (.iconst 0, 1) := by decide +kernel
theorem dX6_weakestDrawn_31 : decode cX6_weakestDrawn 31 = .ok (.istore 4, 2) := by decide +kernel
theorem dX6_weakestDrawn_33 : decode cX6_weakestDrawn 33 = .ok (.iload 4, 2) := by decide +kernel
theorem dX6_weakestDrawn_35 : decode cX6_weakestDrawn 35 = .ok (.iload_n 2, 1) := by decide +kernel
theorem dX6_weakestDrawn_36 : decode cX6_weakestDrawn 36 = .ok (.if_icmp .ge 73, 3) := by decide +kernel
theorem dX6_weakestDrawn_39 : decode cX6_weakestDrawn 39 = .ok (.iload_n 3, 1) := by decide +kernel
theorem dX6_weakestDrawn_40 : decode cX6_weakestDrawn 40 = .ok (.ldc_w 329, 3) := by decide +kernel
theorem dX6_weakestDrawn_43 : decode cX6_weakestDrawn 43 = .ok (.imul, 1) := by decide +kernel
theorem dX6_weakestDrawn_44 : decode cX6_weakestDrawn 44 = .ok (.sipush 12345, 3) := by decide +kernel
theorem dX6_weakestDrawn_47 : decode cX6_weakestDrawn 47 = .ok (.iadd, 1) := by decide +kernel
theorem dX6_weakestDrawn_48 : decode cX6_weakestDrawn 48 = .ok (.istore_n 3, 1) := by decide +kernel
theorem dX6_weakestDrawn_49 : decode cX6_weakestDrawn 49 = .ok (.iload_n 3, 1) := by decide +kernel
theorem dX6_weakestDrawn_50 : decode cX6_weakestDrawn 50 = .ok (.bipush 9, 2) := by decide +kernel
theorem dX6_weakestDrawn_52 : decode cX6_weakestDrawn 52 = .ok (.iushr, 1) := by decide +kernel
theorem dX6_weakestDrawn_53 : decode cX6_weakestDrawn 53 = .ok (.bipush 8, 2) := by decide +kernel
theorem dX6_weakestDrawn_55 : decode cX6_weakestDrawn 55 = .ok (.irem, 1) := by decide +kernel
theorem dX6_weakestDrawn_56 : decode cX6_weakestDrawn 56 = .ok (.istore 5, 2) := by decide +kernel
theorem dX6_weakestDrawn_58 : decode cX6_weakestDrawn 58 = .ok (.iload_n 3, 1) := by decide +kernel
theorem dX6_weakestDrawn_59 : decode cX6_weakestDrawn 59 = .ok (.ldc_w 329, 3) := by decide +kernel
theorem dX6_weakestDrawn_62 : decode cX6_weakestDrawn 62 = .ok (.imul, 1) := by decide +kernel
theorem dX6_weakestDrawn_63 : decode cX6_weakestDrawn 63 = .ok (.sipush 12345, 3) := by decide +kernel
theorem dX6_weakestDrawn_66 : decode cX6_weakestDrawn 66 = .ok (.iadd, 1) := by decide +kernel
theorem dX6_weakestDrawn_67 : decode cX6_weakestDrawn 67 = .ok (.istore_n 3, 1) := by decide +kernel
theorem dX6_weakestDrawn_68 : decode cX6_weakestDrawn 68 = .ok (.iload_n 3, 1) := by decide +kernel
theorem dX6_weakestDrawn_69 : decode cX6_weakestDrawn 69 = .ok (.bipush 9, 2) := by decide +kernel
theorem dX6_weakestDrawn_71 : decode cX6_weakestDrawn 71 = .ok (.iushr, 1) := by decide +kernel
theorem dX6_weakestDrawn_72 : decode cX6_weakestDrawn 72 = .ok (.bipush 8, 2) := by decide +kernel
theorem dX6_weakestDrawn_74 : decode cX6_weakestDrawn 74 = .ok (.irem, 1) := by decide +kernel
theorem dX6_weakestDrawn_75 : decode cX6_weakestDrawn 75 = .ok (.istore 6, 2) := by decide +kernel
theorem dX6_weakestDrawn_77 : decode cX6_weakestDrawn 77 = .ok (.aload_n 0, 1) := by decide +kernel
theorem dX6_weakestDrawn_78 : decode cX6_weakestDrawn 78 = .ok (.iload 5, 2) := by decide +kernel
theorem dX6_weakestDrawn_80 : decode cX6_weakestDrawn 80 = .ok (.invokevirtual 81, 3) := by decide +kernel
theorem dX6_weakestDrawn_83 : decode cX6_weakestDrawn 83 = .ok (.ifCond .eq 20, 3) := by decide +kernel
theorem dX6_weakestDrawn_86 : decode cX6_weakestDrawn 86 = .ok (.aload_n 0, 1) := by decide +kernel
theorem dX6_weakestDrawn_87 : decode cX6_weakestDrawn 87 = .ok (.iload 6, 2) := by decide +kernel
theorem dX6_weakestDrawn_89 : decode cX6_weakestDrawn 89 = .ok (.invokevirtual 81, 3) := by decide +kernel
theorem dX6_weakestDrawn_92 : decode cX6_weakestDrawn 92 = .ok (.ifCond .eq 11, 3) := by decide +kernel
theorem dX6_weakestDrawn_95 : decode cX6_weakestDrawn 95 = .ok (.aload_n 0, 1) := by decide +kernel
theorem dX6_weakestDrawn_96 : decode cX6_weakestDrawn 96 = .ok (.iload 5, 2) := by decide +kernel
theorem dX6_weakestDrawn_98 : decode cX6_weakestDrawn 98 = .ok (.iload 6, 2) := by decide +kernel
theorem dX6_weakestDrawn_100 : decode cX6_weakestDrawn 100 = .ok (.invokevirtual 279, 3) := by decide +kernel
theorem dX6_weakestDrawn_103 : decode cX6_weakestDrawn 103 = .ok (.iinc 4 1, 3) := by decide +kernel
theorem dX6_weakestDrawn_106 : decode cX6_weakestDrawn 106 = .ok (.goto (-73), 3) := by decide +kernel
theorem dX6_weakestDrawn_109 : decode cX6_weakestDrawn 109 = .ok (.aload_n 0, 1) := by decide +kernel
theorem dX6_weakestDrawn_110 : decode cX6_weakestDrawn 110 = .ok (.invokevirtual 262, 3) := by decide +kernel
theorem dX6_weakestDrawn_113 : decode cX6_weakestDrawn 113 = .ok (.istore 4, 2) := by decide +kernel
theorem dX6_weakestDrawn_115 : decode cX6_weakestDrawn 115 = .ok (.iconst 0, 1) := by decide +kernel
theorem dX6_weakestDrawn_116 : decode cX6_weakestDrawn 116 = .ok (.istore 5, 2) := by decide +kernel
theorem dX6_weakestDrawn_118 : decode cX6_weakestDrawn 118 = .ok (.iload 5, 2) := by decide +kernel
theorem dX6_weakestDrawn_120 : decode cX6_weakestDrawn 120 = .ok (.aload_n 0, 1) := by decide +kernel
theorem dX6_weakestDrawn_121 : decode cX6_weakestDrawn 121 = .ok (.getfield 78, 3) := by decide +kernel
theorem dX6_weakestDrawn_124 : decode cX6_weakestDrawn 124 = .ok (.if_icmp .ge 23, 3) := by decide +kernel
theorem dX6_weakestDrawn_127 : decode cX6_weakestDrawn 127 = .ok (.aload_n 0, 1) := by decide +kernel
theorem dX6_weakestDrawn_128 : decode cX6_weakestDrawn 128 = .ok (.getfield 26, 3) := by decide +kernel
theorem dX6_weakestDrawn_131 : decode cX6_weakestDrawn 131 = .ok (.iload 5, 2) := by decide +kernel
theorem dX6_weakestDrawn_133 : decode cX6_weakestDrawn 133 = .ok (.aload_n 0, 1) := by decide +kernel
theorem dX6_weakestDrawn_134 : decode cX6_weakestDrawn 134 = .ok (.getfield 35, 3) := by decide +kernel
theorem dX6_weakestDrawn_137 : decode cX6_weakestDrawn 137 = .ok (.iload 5, 2) := by decide +kernel
theorem dX6_weakestDrawn_139 : decode cX6_weakestDrawn 139 = .ok (.iaload, 1) := by decide +kernel
theorem dX6_weakestDrawn_140 : decode cX6_weakestDrawn 140 = .ok (.iastore, 1) := by decide +kernel
theorem dX6_weakestDrawn_141 : decode cX6_weakestDrawn 141 = .ok (.iinc 5 1, 3) := by decide +kernel
theorem dX6_weakestDrawn_144 : decode cX6_weakestDrawn 144 = .ok (.goto (-26), 3) := by decide +kernel
theorem dX6_weakestDrawn_147 : decode cX6_weakestDrawn 147 = .ok (.iload 4, 2) := by decide +kernel
theorem dX6_weakestDrawn_149 : decode cX6_weakestDrawn 149 = .ok (.ireturn, 1) := by decide +kernel
theorem dX6_drawn_0 : decode cX6_drawn 0 = .ok (.iload_n 2, 1) := by decide +kernel
theorem dX6_drawn_1 : decode cX6_drawn 1 = .ok (.i2l, 1) := by decide +kernel
theorem dX6_drawn_2 : decode cX6_drawn 2 = .ok (.lconst 0, 1) := by decide +kernel
theorem dX6_drawn_3 : decode cX6_drawn 3 = .ok (.ldc2_w 287, 3) := by decide +kernel
theorem dX6_drawn_6 : decode cX6_drawn 6 = .ok (.invokestatic 70, 3) := by decide +kernel
theorem dX6_drawn_9 : decode cX6_drawn 9 = .ok (.ifCond .eq 12, 3) := by decide +kernel
theorem dX6_drawn_12 : decode cX6_drawn 12 = .ok (.aload_n 0, 1) := by decide +kernel
theorem dX6_drawn_13 : decode cX6_drawn 13 = .ok (.iload_n 1, 1) := by decide +kernel
theorem dX6_drawn_14 : decode cX6_drawn 14 = .ok (.iload_n 2, 1) := by decide +kernel
theorem dX6_drawn_15 : decode cX6_drawn 15 = .ok (.invokevirtual 330, 3) := by decide +kernel
theorem dX6_drawn_18 : decode cX6_drawn 18 = .ok (.goto 5, 3) := by decide +kernel
theorem dX6_drawn_21 : decode cX6_drawn 21 = .ok (.bipush (-2), 2) := by decide +kernel
theorem dX6_drawn_23 : decode cX6_drawn 23 = .ok (.ireturn, 1) := by decide +kernel
theorem dX6_chance_0 : decode cX6_chance 0 = .ok (.iload_n 2, 1) := by decide +kernel
theorem dX6_chance_1 : decode cX6_chance 1 = .ok (.i2l, 1) := by decide +kernel
theorem dX6_chance_2 : decode cX6_chance 2 = .ok (.lconst 1, 1) := by decide +kernel
theorem dX6_chance_3 : decode cX6_chance 3 = .ok (.ldc2_w 287, 3) := by decide +kernel
theorem dX6_chance_6 : decode cX6_chance 6 = .ok (.invokestatic 70, 3) := by decide +kernel
theorem dX6_chance_9 : decode cX6_chance 9 = .ok (.ifCond .eq 26, 3) := by decide +kernel
theorem dX6_chance_12 : decode cX6_chance 12 = .ok (.iload_n 3, 1) := by decide +kernel
theorem dX6_chance_13 : decode cX6_chance 13 = .ok (.i2l, 1) := by decide +kernel
theorem dX6_chance_14 : decode cX6_chance 14 = .ok (.lconst 0, 1) := by decide +kernel
theorem dX6_chance_15 : decode cX6_chance 15 = .ok (.ldc2_w 115, 3) := by decide +kernel
theorem dX6_chance_18 : decode cX6_chance 18 = .ok (.invokestatic 70, 3) := by decide +kernel
theorem dX6_chance_21 : decode cX6_chance 21 = .ok (.ifCond .eq 14, 3) := by decide +kernel
theorem dX6_chance_24 : decode cX6_chance 24 = .ok (.iload 4, 2) := by decide +kernel
theorem dX6_chance_26 : decode cX6_chance 26 = .ok (.i2l, 1) := by decide +kernel
theorem dX6_chance_27 : decode cX6_chance 27 = .ok (.lconst 0, 1) := by decide +kernel
theorem dX6_chance_28 : decode cX6_chance 28 = .ok (.lconst 1, 1) := by decide +kernel
theorem dX6_chance_29 : decode cX6_chance 29 = .ok (.invokestatic 70, 3) := by decide +kernel
theorem dX6_chance_32 : decode cX6_chance 32 = .ok (.ifCond .ne 7, 3) := by decide +kernel
theorem dX6_chance_35 : decode cX6_chance 35 = .ok (.ldc2_w 312, 3) := by decide +kernel
theorem dX6_chance_38 : decode cX6_chance 38 = .ok (.lreturn, 1) := by decide +kernel
theorem dX6_chance_39 : decode cX6_chance 39 = .ok (.lconst 0, 1) := by decide +kernel
theorem dX6_chance_40 : decode cX6_chance 40 = .ok (.lstore 5, 2) := by decide +kernel
theorem dX6_chance_42 : decode cX6_chance 42 = .ok (.iconst 0, 1) := by decide +kernel
theorem dX6_chance_43 : decode cX6_chance 43 = .ok (.istore 7, 2) := by decide +kernel
theorem dX6_chance_45 : decode cX6_chance 45 = .ok (.iload 7, 2) := by decide +kernel
theorem dX6_chance_47 : decode cX6_chance 47 = .ok (.iload_n 2, 1) := by decide +kernel
theorem dX6_chance_48 : decode cX6_chance 48 = .ok (.if_icmp .ge 33, 3) := by decide +kernel
theorem dX6_chance_51 : decode cX6_chance 51 = .ok (.lload 5, 2) := by decide +kernel
theorem dX6_chance_53 : decode cX6_chance 53 = .ok (.aload_n 0, 1) := by decide +kernel
theorem dX6_chance_54 : decode cX6_chance 54 = .ok (.iload_n 1, 1) := by decide +kernel
theorem dX6_chance_55 : decode cX6_chance 55 = .ok (.iload 7, 2) := by decide +kernel
theorem dX6_chance_57 : decode cX6_chance 57 = .ok (.iadd, 1) := by decide +kernel
theorem dX6_chance_58 : decode cX6_chance 58 = .ok (.bipush 6, 2) := by decide +kernel
theorem dX6_chance_60 : decode cX6_chance 60 = .ok (.invokevirtual 330, 3) := by decide +kernel
theorem dX6_chance_63 : decode cX6_chance 63 = .ok (.iload_n 3, 1) := by decide +kernel
theorem dX6_chance_64 : decode cX6_chance 64 = .ok (.if_icmp .lt 7, 3) := by decide +kernel
theorem dX6_chance_67 : decode cX6_chance 67 = .ok (.lconst 1, 1) := by decide +kernel
theorem dX6_chance_68 : decode cX6_chance 68 = .ok (.goto 4, 3) := by decide +kernel
theorem dX6_chance_71 : decode cX6_chance 71 = .ok (.lconst 0, 1) := by decide +kernel
theorem dX6_chance_72 : decode cX6_chance 72 = .ok (.ladd, 1) := by decide +kernel
theorem dX6_chance_73 : decode cX6_chance 73 = .ok (.lstore 5, 2) := by decide +kernel
theorem dX6_chance_75 : decode cX6_chance 75 = .ok (.iinc 7 1, 3) := by decide +kernel
theorem dX6_chance_78 : decode cX6_chance 78 = .ok (.goto (-33), 3) := by decide +kernel
theorem dX6_chance_81 : decode cX6_chance 81 = .ok (.lload 5, 2) := by decide +kernel
theorem dX6_chance_83 : decode cX6_chance 83 = .ok (.iload_n 2, 1) := by decide +kernel
theorem dX6_chance_84 : decode cX6_chance 84 = .ok (.i2l, 1) := by decide +kernel
theorem dX6_chance_85 : decode cX6_chance 85 = .ok (.iload 4, 2) := by decide +kernel
theorem dX6_chance_87 : decode cX6_chance 87 = .ok (.invokestatic 314, 3) := by decide +kernel
theorem dX6_chance_90 : decode cX6_chance 90 = .ok (.lreturn, 1) := by decide +kernel
theorem dX6_image_0 : decode cX6_image 0 = .ok (.iconst 0, 1) := by decide +kernel
theorem dX6_image_1 : decode cX6_image 1 = .ok (.istore_n 1, 1) := by decide +kernel
theorem dX6_image_2 : decode cX6_image 2 = .ok (.iload_n 1, 1) := by decide +kernel
theorem dX6_image_3 : decode cX6_image 3 = .ok (.bipush 18, 2) := by decide +kernel
theorem dX6_image_5 : decode cX6_image 5 = .ok (.if_icmp .ge 21, 3) := by decide +kernel
theorem dX6_image_8 : decode cX6_image 8 = .ok (.aload_n 0, 1) := by decide +kernel
theorem dX6_image_9 : decode cX6_image 9 = .ok (.getfield 38, 3) := by decide +kernel
theorem dX6_image_12 : decode cX6_image 12 = .ok (.iload_n 1, 1) := by decide +kernel
theorem dX6_image_13 : decode cX6_image 13 = .ok (.aload_n 0, 1) := by decide +kernel
theorem dX6_image_14 : decode cX6_image 14 = .ok (.getfield 23, 3) := by decide +kernel
theorem dX6_image_17 : decode cX6_image 17 = .ok (.iload_n 1, 1) := by decide +kernel
theorem dX6_image_18 : decode cX6_image 18 = .ok (.iaload, 1) := by decide +kernel
theorem dX6_image_19 : decode cX6_image 19 = .ok (.iastore, 1) := by decide +kernel
theorem dX6_image_20 : decode cX6_image 20 = .ok (.iinc 1 1, 3) := by decide +kernel
theorem dX6_image_23 : decode cX6_image 23 = .ok (.goto (-21), 3) := by decide +kernel
theorem dX6_image_26 : decode cX6_image 26 = .ok (.iconst 0, 1) := by decide +kernel
theorem dX6_image_27 : decode cX6_image 27 = .ok (.istore_n 1, 1) := by decide +kernel
theorem dX6_image_28 : decode cX6_image 28 = .ok (.iload_n 1, 1) := by decide +kernel
theorem dX6_image_29 : decode cX6_image 29 = .ok (.bipush 6, 2) := by decide +kernel
theorem dX6_image_31 : decode cX6_image 31 = .ok (.if_icmp .ge 21, 3) := by decide +kernel
theorem dX6_image_34 : decode cX6_image 34 = .ok (.aload_n 0, 1) := by decide +kernel
theorem dX6_image_35 : decode cX6_image 35 = .ok (.getfield 41, 3) := by decide +kernel
theorem dX6_image_38 : decode cX6_image 38 = .ok (.iload_n 1, 1) := by decide +kernel
theorem dX6_image_39 : decode cX6_image 39 = .ok (.aload_n 0, 1) := by decide +kernel
theorem dX6_image_40 : decode cX6_image 40 = .ok (.getfield 26, 3) := by decide +kernel
theorem dX6_image_43 : decode cX6_image 43 = .ok (.iload_n 1, 1) := by decide +kernel
theorem dX6_image_44 : decode cX6_image 44 = .ok (.iaload, 1) := by decide +kernel
theorem dX6_image_45 : decode cX6_image 45 = .ok (.iastore, 1) := by decide +kernel
theorem dX6_image_46 : decode cX6_image 46 = .ok (.iinc 1 1, 3) := by decide +kernel
theorem dX6_image_49 : decode cX6_image 49 = .ok (.goto (-21), 3) := by decide +kernel
theorem dX6_image_52 : decode cX6_image 52 = .ok (.aload_n 0, 1) := by decide +kernel
theorem dX6_image_53 : decode cX6_image 53 = .ok (.aload_n 0, 1) := by decide +kernel
theorem dX6_image_54 : decode cX6_image 54 = .ok (.getfield 67, 3) := by decide +kernel
theorem dX6_image_57 : decode cX6_image 57 = .ok (.putfield 44, 3) := by decide +kernel
theorem dX6_image_60 : decode cX6_image 60 = .ok (.aload_n 0, 1) := by decide +kernel
theorem dX6_image_61 : decode cX6_image 61 = .ok (.aload_n 0, 1) := by decide +kernel
theorem dX6_image_62 : decode cX6_image 62 = .ok (.getfield 78, 3) := by decide +kernel
theorem dX6_image_65 : decode cX6_image 65 = .ok (.putfield 333, 3) := by decide +kernel
theorem dX6_image_68 : decode cX6_image 68 = .ok (.aload_n 0, 1) := by decide +kernel
theorem dX6_image_69 : decode cX6_image 69 = .ok (.aload_n 0, 1) := by decide +kernel
theorem dX6_image_70 : decode cX6_image 70 = .ok (.getfield 102, 3) := by decide +kernel
theorem dX6_image_73 : decode cX6_image 73 = .ok (.putfield 336, 3) := by decide +kernel
theorem dX6_image_76 : decode cX6_image 76 = .ok (.aload_n 0, 1) := by decide +kernel
theorem dX6_image_77 : decode cX6_image 77 = .ok (.aload_n 0, 1) := by decide +kernel
theorem dX6_image_78 : decode cX6_image 78 = .ok (.getfield 105, 3) := by decide +kernel
theorem dX6_image_81 : decode cX6_image 81 = .ok (.putfield 339, 3) := by decide +kernel
theorem dX6_image_84 : decode cX6_image 84 = .ok (.aload_n 0, 1) := by decide +kernel
theorem dX6_image_85 : decode cX6_image 85 = .ok (.aload_n 0, 1) := by decide +kernel
theorem dX6_image_86 : decode cX6_image 86 = .ok (.getfield 108, 3) := by decide +kernel
theorem dX6_image_89 : decode cX6_image 89 = .ok (.putfield 342, 3) := by decide +kernel
theorem dX6_image_92 : decode cX6_image 92 = .ok (.aload_n 0, 1) := by decide +kernel
theorem dX6_image_93 : decode cX6_image 93 = .ok (.getfield 67, 3) := by decide +kernel
theorem dX6_image_96 : decode cX6_image 96 = .ok (.ireturn, 1) := by decide +kernel
theorem dX6_back_0 : decode cX6_back 0 = .ok (.aload_n 0, 1) := by decide +kernel
theorem dX6_back_1 : decode cX6_back 1 = .ok (.getfield 44, 3) := by decide +kernel
theorem dX6_back_4 : decode cX6_back 4 = .ok (.iconst (-1), 1) := by decide +kernel
theorem dX6_back_5 : decode cX6_back 5 = .ok (.if_icmp .ne 6, 3) := by decide +kernel
theorem dX6_back_8 : decode cX6_back 8 = .ok (.bipush (-3), 2) := by decide +kernel
theorem dX6_back_10 : decode cX6_back 10 = .ok (.ireturn, 1) := by decide +kernel
theorem dX6_back_11 : decode cX6_back 11 = .ok (.iconst 0, 1) := by decide +kernel
theorem dX6_back_12 : decode cX6_back 12 = .ok (.istore_n 1, 1) := by decide +kernel
theorem dX6_back_13 : decode cX6_back 13 = .ok (.iload_n 1, 1) := by decide +kernel
theorem dX6_back_14 : decode cX6_back 14 = .ok (.bipush 18, 2) := by decide +kernel
theorem dX6_back_16 : decode cX6_back 16 = .ok (.if_icmp .ge 21, 3) := by decide +kernel
theorem dX6_back_19 : decode cX6_back 19 = .ok (.aload_n 0, 1) := by decide +kernel
theorem dX6_back_20 : decode cX6_back 20 = .ok (.getfield 23, 3) := by decide +kernel
theorem dX6_back_23 : decode cX6_back 23 = .ok (.iload_n 1, 1) := by decide +kernel
theorem dX6_back_24 : decode cX6_back 24 = .ok (.aload_n 0, 1) := by decide +kernel
theorem dX6_back_25 : decode cX6_back 25 = .ok (.getfield 38, 3) := by decide +kernel
theorem dX6_back_28 : decode cX6_back 28 = .ok (.iload_n 1, 1) := by decide +kernel
theorem dX6_back_29 : decode cX6_back 29 = .ok (.iaload, 1) := by decide +kernel
theorem dX6_back_30 : decode cX6_back 30 = .ok (.iastore, 1) := by decide +kernel
theorem dX6_back_31 : decode cX6_back 31 = .ok (.iinc 1 1, 3) := by decide +kernel
theorem dX6_back_34 : decode cX6_back 34 = .ok (.goto (-21), 3) := by decide +kernel
theorem dX6_back_37 : decode cX6_back 37 = .ok (.iconst 0, 1) := by decide +kernel
theorem dX6_back_38 : decode cX6_back 38 = .ok (.istore_n 1, 1) := by decide +kernel
theorem dX6_back_39 : decode cX6_back 39 = .ok (.iload_n 1, 1) := by decide +kernel
theorem dX6_back_40 : decode cX6_back 40 = .ok (.bipush 6, 2) := by decide +kernel
theorem dX6_back_42 : decode cX6_back 42 = .ok (.if_icmp .ge 21, 3) := by decide +kernel
theorem dX6_back_45 : decode cX6_back 45 = .ok (.aload_n 0, 1) := by decide +kernel
theorem dX6_back_46 : decode cX6_back 46 = .ok (.getfield 26, 3) := by decide +kernel
theorem dX6_back_49 : decode cX6_back 49 = .ok (.iload_n 1, 1) := by decide +kernel
theorem dX6_back_50 : decode cX6_back 50 = .ok (.aload_n 0, 1) := by decide +kernel
theorem dX6_back_51 : decode cX6_back 51 = .ok (.getfield 41, 3) := by decide +kernel
theorem dX6_back_54 : decode cX6_back 54 = .ok (.iload_n 1, 1) := by decide +kernel
theorem dX6_back_55 : decode cX6_back 55 = .ok (.iaload, 1) := by decide +kernel
theorem dX6_back_56 : decode cX6_back 56 = .ok (.iastore, 1) := by decide +kernel
theorem dX6_back_57 : decode cX6_back 57 = .ok (.iinc 1 1, 3) := by decide +kernel
theorem dX6_back_60 : decode cX6_back 60 = .ok (.goto (-21), 3) := by decide +kernel
theorem dX6_back_63 : decode cX6_back 63 = .ok (.aload_n 0, 1) := by decide +kernel
theorem dX6_back_64 : decode cX6_back 64 = .ok (.aload_n 0, 1) := by decide +kernel
theorem dX6_back_65 : decode cX6_back 65 = .ok (.getfield 44, 3) := by decide +kernel
theorem dX6_back_68 : decode cX6_back 68 = .ok (.putfield 67, 3) := by decide +kernel
theorem dX6_back_71 : decode cX6_back 71 = .ok (.aload_n 0, 1) := by decide +kernel
theorem dX6_back_72 : decode cX6_back 72 = .ok (.aload_n 0, 1) := by decide +kernel
theorem dX6_back_73 : decode cX6_back 73 = .ok (.getfield 333, 3) := by decide +kernel
theorem dX6_back_76 : decode cX6_back 76 = .ok (.putfield 78, 3) := by decide +kernel
theorem dX6_back_79 : decode cX6_back 79 = .ok (.aload_n 0, 1) := by decide +kernel
theorem dX6_back_80 : decode cX6_back 80 = .ok (.aload_n 0, 1) := by decide +kernel
theorem dX6_back_81 : decode cX6_back 81 = .ok (.getfield 336, 3) := by decide +kernel
theorem dX6_back_84 : decode cX6_back 84 = .ok (.putfield 102, 3) := by decide +kernel
theorem dX6_back_87 : decode cX6_back 87 = .ok (.aload_n 0, 1) := by decide +kernel
theorem dX6_back_88 : decode cX6_back 88 = .ok (.aload_n 0, 1) := by decide +kernel
theorem dX6_back_89 : decode cX6_back 89 = .ok (.getfield 339, 3) := by decide +kernel
theorem dX6_back_92 : decode cX6_back 92 = .ok (.putfield 105, 3) := by decide +kernel
theorem dX6_back_95 : decode cX6_back 95 = .ok (.aload_n 0, 1) := by decide +kernel
theorem dX6_back_96 : decode cX6_back 96 = .ok (.aload_n 0, 1) := by decide +kernel
theorem dX6_back_97 : decode cX6_back 97 = .ok (.getfield 342, 3) := by decide +kernel
theorem dX6_back_100 : decode cX6_back 100 = .ok (.putfield 108, 3) := by decide +kernel
theorem dX6_back_103 : decode cX6_back 103 = .ok (.aload_n 0, 1) := by decide +kernel
theorem dX6_back_104 : decode cX6_back 104 = .ok (.getfield 67, 3) := by decide +kernel
theorem dX6_back_107 : decode cX6_back 107 = .ok (.ireturn, 1) := by decide +kernel
theorem dX6_count_0 : decode cX6_count 0 = .ok (.iload_n 1, 1) := by decide +kernel
theorem dX6_count_1 : decode cX6_count 1 = .ok (.i2l, 1) := by decide +kernel
theorem dX6_count_2 : decode cX6_count 2 = .ok (.lconst 0, 1) := by decide +kernel
theorem dX6_count_3 : decode cX6_count 3 = .ok (.ldc2_w 111, 3) := by decide +kernel
theorem dX6_count_6 : decode cX6_count 6 = .ok (.invokestatic 70, 3) := by decide +kernel
theorem dX6_count_9 : decode cX6_count 9 = .ok (.ifCond .ne 6, 3) := by decide +kernel
theorem dX6_count_12 : decode cX6_count 12 = .ok (.bipush (-2), 2) := by decide +kernel
theorem dX6_count_14 : decode cX6_count 14 = .ok (.ireturn, 1) := by decide +kernel
theorem dX6_count_15 : decode cX6_count 15 = .ok (.iload_n 1, 1) := by decide +kernel
theorem dX6_count_16 : decode cX6_count 16 = .ok (.ifCond .ne 10, 3) := by decide +kernel
theorem dX6_count_19 : decode cX6_count 19 = .ok (.aload_n 0, 1) := by decide +kernel
theorem dX6_count_20 : decode cX6_count 20 = .ok (.getfield 67, 3) := by decide +kernel
theorem dX6_count_23 : decode cX6_count 23 = .ok (.goto 55, 3) := by decide +kernel
theorem dX6_count_26 : decode cX6_count 26 = .ok (.iload_n 1, 1) := by decide +kernel
theorem dX6_count_27 : decode cX6_count 27 = .ok (.iconst 1, 1) := by decide +kernel
theorem dX6_count_28 : decode cX6_count 28 = .ok (.if_icmp .ne 10, 3) := by decide +kernel
theorem dX6_count_31 : decode cX6_count 31 = .ok (.aload_n 0, 1) := by decide +kernel
theorem dX6_count_32 : decode cX6_count 32 = .ok (.getfield 78, 3) := by decide +kernel
theorem dX6_count_35 : decode cX6_count 35 = .ok (.goto 43, 3) := by decide +kernel
theorem dX6_count_38 : decode cX6_count 38 = .ok (.iload_n 1, 1) := by decide +kernel
theorem dX6_count_39 : decode cX6_count 39 = .ok (.iconst 2, 1) := by decide +kernel
theorem dX6_count_40 : decode cX6_count 40 = .ok (.if_icmp .ne 10, 3) := by decide +kernel
theorem dX6_count_43 : decode cX6_count 43 = .ok (.aload_n 0, 1) := by decide +kernel
theorem dX6_count_44 : decode cX6_count 44 = .ok (.getfield 102, 3) := by decide +kernel
theorem dX6_count_47 : decode cX6_count 47 = .ok (.goto 31, 3) := by decide +kernel
theorem dX6_count_50 : decode cX6_count 50 = .ok (.iload_n 1, 1) := by decide +kernel
theorem dX6_count_51 : decode cX6_count 51 = .ok (.iconst 3, 1) := by decide +kernel
theorem dX6_count_52 : decode cX6_count 52 = .ok (.if_icmp .ne 10, 3) := by decide +kernel
theorem dX6_count_55 : decode cX6_count 55 = .ok (.aload_n 0, 1) := by decide +kernel
theorem dX6_count_56 : decode cX6_count 56 = .ok (.getfield 64, 3) := by decide +kernel
theorem dX6_count_59 : decode cX6_count 59 = .ok (.goto 19, 3) := by decide +kernel
theorem dX6_count_62 : decode cX6_count 62 = .ok (.iload_n 1, 1) := by decide +kernel
theorem dX6_count_63 : decode cX6_count 63 = .ok (.iconst 4, 1) := by decide +kernel
theorem dX6_count_64 : decode cX6_count 64 = .ok (.if_icmp .ne 10, 3) := by decide +kernel
theorem dX6_count_67 : decode cX6_count 67 = .ok (.aload_n 0, 1) := by decide +kernel
theorem dX6_count_68 : decode cX6_count 68 = .ok (.getfield 130, 3) := by decide +kernel
theorem dX6_count_71 : decode cX6_count 71 = .ok (.goto 7, 3) := by decide +kernel
theorem dX6_count_74 : decode cX6_count 74 = .ok (.aload_n 0, 1) := by decide +kernel
theorem dX6_count_75 : decode cX6_count 75 = .ok (.getfield 108, 3) := by decide +kernel
theorem dX6_count_78 : decode cX6_count 78 = .ok (.ireturn, 1) := by decide +kernel
theorem dX6_isSheet_0 : decode cX6_isSheet 0 = .ok (.iload_n 0, 1) := by decide +kernel
theorem dX6_isSheet_1 : decode cX6_isSheet 1 = .ok (.i2l, 1) := by decide +kernel
theorem dX6_isSheet_2 : decode cX6_isSheet 2 = .ok (.lconst 0, 1) := by decide +kernel
theorem dX6_isSheet_3 : decode cX6_isSheet 3 = .ok (.ldc2_w 84, 3) := by decide +kernel
theorem dX6_isSheet_6 : decode cX6_isSheet 6 = .ok (.invokestatic 70, 3) := by decide +kernel
theorem dX6_isSheet_9 : decode cX6_isSheet 9 = .ok (.ireturn, 1) := by decide +kernel
theorem dX6_sheet_0 : decode cX6_sheet 0 = .ok (.iload_n 1, 1) := by decide +kernel
theorem dX6_sheet_1 : decode cX6_sheet 1 = .ok (.invokestatic 318, 3) := by decide +kernel
theorem dX6_sheet_4 : decode cX6_sheet 4 = .ok (.ifCond .eq 27, 3) := by decide +kernel
theorem dX6_sheet_7 : decode cX6_sheet 7 = .ok (.iload_n 2, 1) := by decide +kernel
theorem dX6_sheet_8 : decode cX6_sheet 8 = .ok (.i2l, 1) := by decide +kernel
theorem dX6_sheet_9 : decode cX6_sheet 9 = .ok (.ldc2_w 345, 3) := by decide +kernel
theorem dX6_sheet_12 : decode cX6_sheet 12 = .ok (.ldc2_w 285, 3) := by decide +kernel
theorem dX6_sheet_15 : decode cX6_sheet 15 = .ok (.invokestatic 70, 3) := by decide +kernel
theorem dX6_sheet_18 : decode cX6_sheet 18 = .ok (.ifCond .eq 13, 3) := by decide +kernel
theorem dX6_sheet_21 : decode cX6_sheet 21 = .ok (.iload_n 2, 1) := by decide +kernel
theorem dX6_sheet_22 : decode cX6_sheet 22 = .ok (.ifCond .lt 12, 3) := by decide +kernel
theorem dX6_sheet_25 : decode cX6_sheet 25 = .ok (.iload_n 3, 1) := by decide +kernel
theorem dX6_sheet_26 : decode cX6_sheet 26 = .ok (.bipush 40, 2) := by decide +kernel
theorem dX6_sheet_28 : decode cX6_sheet 28 = .ok (.if_icmp .le 6, 3) := by decide +kernel
theorem dX6_sheet_31 : decode cX6_sheet 31 = .ok (.bipush (-2), 2) := by decide +kernel
theorem dX6_sheet_33 : decode cX6_sheet 33 = .ok (.ireturn, 1) := by decide +kernel
theorem dX6_sheet_34 : decode cX6_sheet 34 = .ok (.iload_n 2, 1) := by decide +kernel
theorem dX6_sheet_35 : decode cX6_sheet 35 = .ok (.ifCond .lt 10, 3) := by decide +kernel
theorem dX6_sheet_38 : decode cX6_sheet 38 = .ok (.iload_n 3, 1) := by decide +kernel
theorem dX6_sheet_39 : decode cX6_sheet 39 = .ok (.ifCond .ge 6, 3) := by decide +kernel
theorem dX6_sheet_42 : decode cX6_sheet 42 = .ok (.bipush (-14), 2) := by decide +kernel
theorem dX6_sheet_44 : decode cX6_sheet 44 = .ok (.ireturn, 1) := by decide +kernel
theorem dX6_sheet_45 : decode cX6_sheet 45 = .ok (.aload_n 0, 1) := by decide +kernel
theorem dX6_sheet_46 : decode cX6_sheet 46 = .ok (.getfield 47, 3) := by decide +kernel
theorem dX6_sheet_49 : decode cX6_sheet 49 = .ok (.iload_n 1, 1) := by decide +kernel
theorem dX6_sheet_50 : decode cX6_sheet 50 = .ok (.iload_n 2, 1) := by decide +kernel
theorem dX6_sheet_51 : decode cX6_sheet 51 = .ok (.ifCond .lt 7, 3) := by decide +kernel
theorem dX6_sheet_54 : decode cX6_sheet 54 = .ok (.iconst 1, 1) := by decide +kernel
theorem dX6_sheet_55 : decode cX6_sheet 55 = .ok (.goto 4, 3) := by decide +kernel
theorem dX6_sheet_58 : decode cX6_sheet 58 = .ok (.iconst 0, 1) := by decide +kernel
theorem dX6_sheet_59 : decode cX6_sheet 59 = .ok (.bastore, 1) := by decide +kernel
theorem dX6_sheet_60 : decode cX6_sheet 60 = .ok (.aload_n 0, 1) := by decide +kernel
theorem dX6_sheet_61 : decode cX6_sheet 61 = .ok (.getfield 51, 3) := by decide +kernel
theorem dX6_sheet_64 : decode cX6_sheet 64 = .ok (.iload_n 1, 1) := by decide +kernel
theorem dX6_sheet_65 : decode cX6_sheet 65 = .ok (.iload_n 2, 1) := by decide +kernel
theorem dX6_sheet_66 : decode cX6_sheet 66 = .ok (.iastore, 1) := by decide +kernel
theorem dX6_sheet_67 : decode cX6_sheet 67 = .ok (.aload_n 0, 1) := by decide +kernel
theorem dX6_sheet_68 : decode cX6_sheet 68 = .ok (.getfield 54, 3) := by decide +kernel
theorem dX6_sheet_71 : decode cX6_sheet 71 = .ok (.iload_n 1, 1) := by decide +kernel
theorem dX6_sheet_72 : decode cX6_sheet 72 = .ok (.iload_n 3, 1) := by decide +kernel
theorem dX6_sheet_73 : decode cX6_sheet 73 = .ok (.iastore, 1) := by decide +kernel
theorem dX6_sheet_74 : decode cX6_sheet 74 = .ok (.iconst 0, 1) := by decide +kernel
theorem dX6_sheet_75 : decode cX6_sheet 75 = .ok (.istore 4, 2) := by decide +kernel
theorem dX6_sheet_77 : decode cX6_sheet 77 = .ok (.iload 4, 2) := by decide +kernel
theorem dX6_sheet_79 : decode cX6_sheet 79 = .ok (.iload_n 3, 1) := by decide +kernel
theorem dX6_sheet_80 : decode cX6_sheet 80 = .ok (.if_icmp .ge 26, 3) := by decide +kernel
theorem dX6_sheet_83 : decode cX6_sheet 83 = .ok (.iload_n 2, 1) := by decide +kernel
theorem dX6_sheet_84 : decode cX6_sheet 84 = .ok (.ifCond .lt 22, 3) := by decide +kernel
theorem dX6_sheet_87 : decode cX6_sheet 87 = .ok (.aload_n 0, 1) := by decide +kernel
theorem dX6_sheet_88 : decode cX6_sheet 88 = .ok (.getfield 57, 3) := by decide +kernel
theorem dX6_sheet_91 : decode cX6_sheet 91 = .ok (.bipush 40, 2) := by decide +kernel
theorem dX6_sheet_93 : decode cX6_sheet 93 = .ok (.iload_n 1, 1) := by decide +kernel
theorem dX6_sheet_94 : decode cX6_sheet 94 = .ok (.imul, 1) := by decide +kernel
theorem dX6_sheet_95 : decode cX6_sheet 95 = .ok (.iload 4, 2) := by decide +kernel
theorem dX6_sheet_97 : decode cX6_sheet 97 = .ok (.iadd, 1) := by decide +kernel
theorem dX6_sheet_98 : decode cX6_sheet 98 = .ok (.iconst 0, 1) := by decide +kernel
theorem dX6_sheet_99 : decode cX6_sheet 99 = .ok (.iastore, 1) := by decide +kernel
theorem dX6_sheet_100 : decode cX6_sheet 100 = .ok (.iinc 4 1, 3) := by decide +kernel
theorem dX6_sheet_103 : decode cX6_sheet 103 = .ok (.goto (-26), 3) := by decide +kernel
theorem dX6_sheet_106 : decode cX6_sheet 106 = .ok (.iconst 1, 1) := by decide +kernel
theorem dX6_sheet_107 : decode cX6_sheet 107 = .ok (.ireturn, 1) := by decide +kernel
theorem dX6_cell_0 : decode cX6_cell 0 = .ok (.iload_n 1, 1) := by decide +kernel
theorem dX6_cell_1 : decode cX6_cell 1 = .ok (.invokestatic 318, 3) := by decide +kernel
theorem dX6_cell_4 : decode cX6_cell 4 = .ok (.ifCond .ne 6, 3) := by decide +kernel
theorem dX6_cell_7 : decode cX6_cell 7 = .ok (.bipush (-2), 2) := by decide +kernel
theorem dX6_cell_9 : decode cX6_cell 9 = .ok (.ireturn, 1) := by decide +kernel
theorem dX6_cell_10 : decode cX6_cell 10 = .ok (.aload_n 0, 1) := by decide +kernel
theorem dX6_cell_11 : decode cX6_cell 11 = .ok (.getfield 47, 3) := by decide +kernel
theorem dX6_cell_14 : decode cX6_cell 14 = .ok (.iload_n 1, 1) := by decide +kernel
theorem dX6_cell_15 : decode cX6_cell 15 = .ok (.baload, 1) := by decide +kernel
theorem dX6_cell_16 : decode cX6_cell 16 = .ok (.ifCond .ne 6, 3) := by decide +kernel
theorem dX6_cell_19 : decode cX6_cell 19 = .ok (.bipush (-11), 2) := by decide +kernel
theorem dX6_cell_21 : decode cX6_cell 21 = .ok (.ireturn, 1) := by decide +kernel
theorem dX6_cell_22 : decode cX6_cell 22 = .ok (.iload_n 2, 1) := by decide +kernel
theorem dX6_cell_23 : decode cX6_cell 23 = .ok (.i2l, 1) := by decide +kernel
theorem dX6_cell_24 : decode cX6_cell 24 = .ok (.lconst 0, 1) := by decide +kernel
theorem dX6_cell_25 : decode cX6_cell 25 = .ok (.aload_n 0, 1) := by decide +kernel
theorem dX6_cell_26 : decode cX6_cell 26 = .ok (.getfield 54, 3) := by decide +kernel
theorem dX6_cell_29 : decode cX6_cell 29 = .ok (.iload_n 1, 1) := by decide +kernel
theorem dX6_cell_30 : decode cX6_cell 30 = .ok (.iaload, 1) := by decide +kernel
theorem dX6_cell_31 : decode cX6_cell 31 = .ok (.iconst 1, 1) := by decide +kernel
theorem dX6_cell_32 : decode cX6_cell 32 = .ok (.isub, 1) := by decide +kernel
theorem dX6_cell_33 : decode cX6_cell 33 = .ok (.i2l, 1) := by decide +kernel
theorem dX6_cell_34 : decode cX6_cell 34 = .ok (.invokestatic 70, 3) := by decide +kernel
theorem dX6_cell_37 : decode cX6_cell 37 = .ok (.ifCond .ne 6, 3) := by decide +kernel
theorem dX6_cell_40 : decode cX6_cell 40 = .ok (.bipush (-12), 2) := by decide +kernel
theorem dX6_cell_42 : decode cX6_cell 42 = .ok (.ireturn, 1) := by decide +kernel
theorem dX6_cell_43 : decode cX6_cell 43 = .ok (.aload_n 0, 1) := by decide +kernel
theorem dX6_cell_44 : decode cX6_cell 44 = .ok (.getfield 57, 3) := by decide +kernel
theorem dX6_cell_47 : decode cX6_cell 47 = .ok (.bipush 40, 2) := by decide +kernel
theorem dX6_cell_49 : decode cX6_cell 49 = .ok (.iload_n 1, 1) := by decide +kernel
theorem dX6_cell_50 : decode cX6_cell 50 = .ok (.imul, 1) := by decide +kernel
theorem dX6_cell_51 : decode cX6_cell 51 = .ok (.iload_n 2, 1) := by decide +kernel
theorem dX6_cell_52 : decode cX6_cell 52 = .ok (.iadd, 1) := by decide +kernel
theorem dX6_cell_53 : decode cX6_cell 53 = .ok (.aload_n 0, 1) := by decide +kernel
theorem dX6_cell_54 : decode cX6_cell 54 = .ok (.getfield 51, 3) := by decide +kernel
theorem dX6_cell_57 : decode cX6_cell 57 = .ok (.iload_n 1, 1) := by decide +kernel
theorem dX6_cell_58 : decode cX6_cell 58 = .ok (.iaload, 1) := by decide +kernel
theorem dX6_cell_59 : decode cX6_cell 59 = .ok (.ifCond .ne 8, 3) := by decide +kernel
theorem dX6_cell_62 : decode cX6_cell 62 = .ok (.iload_n 3, 1) := by decide +kernel
theorem dX6_cell_63 : decode cX6_cell 63 = .ok (.i2b, 1) := by decide +kernel
theorem dX6_cell_64 : decode cX6_cell 64 = .ok (.goto 19, 3) := by decide +kernel
theorem dX6_cell_67 : decode cX6_cell 67 = .ok (.aload_n 0, 1) := by decide +kernel
theorem dX6_cell_68 : decode cX6_cell 68 = .ok (.getfield 51, 3) := by decide +kernel
theorem dX6_cell_71 : decode cX6_cell 71 = .ok (.iload_n 1, 1) := by decide +kernel
theorem dX6_cell_72 : decode cX6_cell 72 = .ok (.iaload, 1) := by decide +kernel
theorem dX6_cell_73 : decode cX6_cell 73 = .ok (.iconst 1, 1) := by decide +kernel
theorem dX6_cell_74 : decode cX6_cell 74 = .ok (.if_icmp .ne 8, 3) := by decide +kernel
theorem dX6_cell_77 : decode cX6_cell 77 = .ok (.iload_n 3, 1) := by decide +kernel
theorem dX6_cell_78 : decode cX6_cell 78 = .ok (.i2s, 1) := by decide +kernel
theorem dX6_cell_79 : decode cX6_cell 79 = .ok (.goto 4, 3) := by decide +kernel
theorem dX6_cell_82 : decode cX6_cell 82 = .ok (.iload_n 3, 1) := by decide +kernel
theorem dX6_cell_83 : decode cX6_cell 83 = .ok (.iastore, 1) := by decide +kernel
theorem dX6_cell_84 : decode cX6_cell 84 = .ok (.iconst 1, 1) := by decide +kernel
theorem dX6_cell_85 : decode cX6_cell 85 = .ok (.ireturn, 1) := by decide +kernel
theorem dX6_copy_0 : decode cX6_copy 0 = .ok (.iload_n 1, 1) := by decide +kernel
theorem dX6_copy_1 : decode cX6_copy 1 = .ok (.invokestatic 318, 3) := by decide +kernel
theorem dX6_copy_4 : decode cX6_copy 4 = .ok (.ifCond .eq 10, 3) := by decide +kernel
theorem dX6_copy_7 : decode cX6_copy 7 = .ok (.iload_n 3, 1) := by decide +kernel
theorem dX6_copy_8 : decode cX6_copy 8 = .ok (.invokestatic 318, 3) := by decide +kernel
theorem dX6_copy_11 : decode cX6_copy 11 = .ok (.ifCond .ne 6, 3) := by decide +kernel
theorem dX6_copy_14 : decode cX6_copy 14 = .ok (.bipush (-2), 2) := by decide +kernel
theorem dX6_copy_16 : decode cX6_copy 16 = .ok (.ireturn, 1) := by decide +kernel
theorem dX6_copy_17 : decode cX6_copy 17 = .ok (.aload_n 0, 1) := by decide +kernel
theorem dX6_copy_18 : decode cX6_copy 18 = .ok (.getfield 47, 3) := by decide +kernel
theorem dX6_copy_21 : decode cX6_copy 21 = .ok (.iload_n 1, 1) := by decide +kernel
theorem dX6_copy_22 : decode cX6_copy 22 = .ok (.baload, 1) := by decide +kernel
theorem dX6_copy_23 : decode cX6_copy 23 = .ok (.ifCond .eq 12, 3) := by decide +kernel
theorem dX6_copy_26 : decode cX6_copy 26 = .ok (.aload_n 0, 1) := by decide +kernel
theorem dX6_copy_27 : decode cX6_copy 27 = .ok (.getfield 47, 3) := by decide +kernel
theorem dX6_copy_30 : decode cX6_copy 30 = .ok (.iload_n 3, 1) := by decide +kernel
theorem dX6_copy_31 : decode cX6_copy 31 = .ok (.baload, 1) := by decide +kernel
theorem dX6_copy_32 : decode cX6_copy 32 = .ok (.ifCond .ne 6, 3) := by decide +kernel
theorem dX6_copy_35 : decode cX6_copy 35 = .ok (.bipush (-11), 2) := by decide +kernel
theorem dX6_copy_37 : decode cX6_copy 37 = .ok (.ireturn, 1) := by decide +kernel
theorem dX6_copy_38 : decode cX6_copy 38 = .ok (.aload_n 0, 1) := by decide +kernel
theorem dX6_copy_39 : decode cX6_copy 39 = .ok (.getfield 51, 3) := by decide +kernel
theorem dX6_copy_42 : decode cX6_copy 42 = .ok (.iload_n 1, 1) := by decide +kernel
theorem dX6_copy_43 : decode cX6_copy 43 = .ok (.iaload, 1) := by decide +kernel
theorem dX6_copy_44 : decode cX6_copy 44 = .ok (.aload_n 0, 1) := by decide +kernel
theorem dX6_copy_45 : decode cX6_copy 45 = .ok (.getfield 51, 3) := by decide +kernel
theorem dX6_copy_48 : decode cX6_copy 48 = .ok (.iload_n 3, 1) := by decide +kernel
theorem dX6_copy_49 : decode cX6_copy 49 = .ok (.iaload, 1) := by decide +kernel
theorem dX6_copy_50 : decode cX6_copy 50 = .ok (.if_icmp .eq 6, 3) := by decide +kernel
theorem dX6_copy_53 : decode cX6_copy 53 = .ok (.bipush (-13), 2) := by decide +kernel
theorem dX6_copy_55 : decode cX6_copy 55 = .ok (.ireturn, 1) := by decide +kernel
theorem dX6_copy_56 : decode cX6_copy 56 = .ok (.iload 5, 2) := by decide +kernel
theorem dX6_copy_58 : decode cX6_copy 58 = .ok (.ifCond .lt 39, 3) := by decide +kernel
theorem dX6_copy_61 : decode cX6_copy 61 = .ok (.iload_n 2, 1) := by decide +kernel
theorem dX6_copy_62 : decode cX6_copy 62 = .ok (.ifCond .lt 35, 3) := by decide +kernel
theorem dX6_copy_65 : decode cX6_copy 65 = .ok (.iload 4, 2) := by decide +kernel
theorem dX6_copy_67 : decode cX6_copy 67 = .ok (.ifCond .lt 30, 3) := by decide +kernel
theorem dX6_copy_70 : decode cX6_copy 70 = .ok (.iload_n 2, 1) := by decide +kernel
theorem dX6_copy_71 : decode cX6_copy 71 = .ok (.aload_n 0, 1) := by decide +kernel
theorem dX6_copy_72 : decode cX6_copy 72 = .ok (.getfield 54, 3) := by decide +kernel
theorem dX6_copy_75 : decode cX6_copy 75 = .ok (.iload_n 1, 1) := by decide +kernel
theorem dX6_copy_76 : decode cX6_copy 76 = .ok (.iaload, 1) := by decide +kernel
theorem dX6_copy_77 : decode cX6_copy 77 = .ok (.iload 5, 2) := by decide +kernel
theorem dX6_copy_79 : decode cX6_copy 79 = .ok (.isub, 1) := by decide +kernel
theorem dX6_copy_80 : decode cX6_copy 80 = .ok (.if_icmp .gt 17, 3) := by decide +kernel
theorem dX6_copy_83 : decode cX6_copy 83 = .ok (.iload 4, 2) := by decide +kernel
theorem dX6_copy_85 : decode cX6_copy 85 = .ok (.aload_n 0, 1) := by decide +kernel
theorem dX6_copy_86 : decode cX6_copy 86 = .ok (.getfield 54, 3) := by decide +kernel
theorem dX6_copy_89 : decode cX6_copy 89 = .ok (.iload_n 3, 1) := by decide +kernel
theorem dX6_copy_90 : decode cX6_copy 90 = .ok (.iaload, 1) := by decide +kernel
theorem dX6_copy_91 : decode cX6_copy 91 = .ok (.iload 5, 2) := by decide +kernel
theorem dX6_copy_93 : decode cX6_copy 93 = .ok (.isub, 1) := by decide +kernel
theorem dX6_copy_94 : decode cX6_copy 94 = .ok (.if_icmp .le 6, 3) := by decide +kernel
theorem dX6_copy_97 : decode cX6_copy 97 = .ok (.bipush (-12), 2) := by decide +kernel
theorem dX6_copy_99 : decode cX6_copy 99 = .ok (.ireturn, 1) := by decide +kernel
theorem dX6_copy_100 : decode cX6_copy 100 = .ok (.iload_n 1, 1) := by decide +kernel
theorem dX6_copy_101 : decode cX6_copy 101 = .ok (.iload_n 3, 1) := by decide +kernel
theorem dX6_copy_102 : decode cX6_copy 102 = .ok (.if_icmp .ne 13, 3) := by decide +kernel
theorem dX6_copy_105 : decode cX6_copy 105 = .ok (.iload_n 2, 1) := by decide +kernel
theorem dX6_copy_106 : decode cX6_copy 106 = .ok (.iload 4, 2) := by decide +kernel
theorem dX6_copy_108 : decode cX6_copy 108 = .ok (.if_icmp .ge 7, 3) := by decide +kernel
theorem dX6_copy_111 : decode cX6_copy 111 = .ok (.iconst 1, 1) := by decide +kernel
theorem dX6_copy_112 : decode cX6_copy 112 = .ok (.goto 4, 3) := by decide +kernel
theorem dX6_copy_115 : decode cX6_copy 115 = .ok (.iconst 0, 1) := by decide +kernel
theorem dX6_copy_116 : decode cX6_copy 116 = .ok (.istore 6, 2) := by decide +kernel
theorem dX6_copy_118 : decode cX6_copy 118 = .ok (.iconst 0, 1) := by decide +kernel
theorem dX6_copy_119 : decode cX6_copy 119 = .ok (.istore 7, 2) := by decide +kernel
theorem dX6_copy_121 : decode cX6_copy 121 = .ok (.iload 7, 2) := by decide +kernel
theorem dX6_copy_123 : decode cX6_copy 123 = .ok (.iload 5, 2) := by decide +kernel
theorem dX6_copy_125 : decode cX6_copy 125 = .ok (.if_icmp .ge 57, 3) := by decide +kernel
theorem dX6_copy_128 : decode cX6_copy 128 = .ok (.iload 6, 2) := by decide +kernel
theorem dX6_copy_130 : decode cX6_copy 130 = .ok (.ifCond .eq 13, 3) := by decide +kernel
theorem dX6_copy_133 : decode cX6_copy 133 = .ok (.iload 5, 2) := by decide +kernel
theorem dX6_copy_135 : decode cX6_copy 135 = .ok (.iconst 1, 1) := by decide +kernel
theorem dX6_copy_136 : decode cX6_copy 136 = .ok (.isub, 1) := by decide +kernel
theorem dX6_copy_137 : decode cX6_copy 137 = .ok (.iload 7, 2) := by decide +kernel
theorem dX6_copy_139 : decode cX6_copy 139 = .ok (.isub, 1) := by decide +kernel
theorem dX6_copy_140 : decode cX6_copy 140 = .ok (.goto 5, 3) := by decide +kernel
theorem dX6_copy_143 : decode cX6_copy 143 = .ok (.iload 7, 2) := by decide +kernel
theorem dX6_copy_145 : decode cX6_copy 145 = .ok (.istore 8, 2) := by decide +kernel
theorem dX6_copy_147 : decode cX6_copy 147 = .ok (.aload_n 0, 1) := by decide +kernel
theorem dX6_copy_148 : decode cX6_copy 148 = .ok (.getfield 57, 3) := by decide +kernel
theorem dX6_copy_151 : decode cX6_copy 151 = .ok (.bipush 40, 2) := by decide +kernel
theorem dX6_copy_153 : decode cX6_copy 153 = .ok (.iload_n 3, 1) := by decide +kernel
theorem dX6_copy_154 : decode cX6_copy 154 = .ok (.imul, 1) := by decide +kernel
theorem dX6_copy_155 : decode cX6_copy 155 = .ok (.iload 4, 2) := by decide +kernel
theorem dX6_copy_157 : decode cX6_copy 157 = .ok (.iadd, 1) := by decide +kernel
theorem dX6_copy_158 : decode cX6_copy 158 = .ok (.iload 8, 2) := by decide +kernel
theorem dX6_copy_160 : decode cX6_copy 160 = .ok (.iadd, 1) := by decide +kernel
theorem dX6_copy_161 : decode cX6_copy 161 = .ok (.aload_n 0, 1) := by decide +kernel
theorem dX6_copy_162 : decode cX6_copy 162 = .ok (.getfield 57, 3) := by decide +kernel
theorem dX6_copy_165 : decode cX6_copy 165 = .ok (.bipush 40, 2) := by decide +kernel
theorem dX6_copy_167 : decode cX6_copy 167 = .ok (.iload_n 1, 1) := by decide +kernel
theorem dX6_copy_168 : decode cX6_copy 168 = .ok (.imul, 1) := by decide +kernel
theorem dX6_copy_169 : decode cX6_copy 169 = .ok (.iload_n 2, 1) := by decide +kernel
theorem dX6_copy_170 : decode cX6_copy 170 = .ok (.iadd, 1) := by decide +kernel
theorem dX6_copy_171 : decode cX6_copy 171 = .ok (.iload 8, 2) := by decide +kernel
theorem dX6_copy_173 : decode cX6_copy 173 = .ok (.iadd, 1) := by decide +kernel
theorem dX6_copy_174 : decode cX6_copy 174 = .ok (.iaload, 1) := by decide +kernel
theorem dX6_copy_175 : decode cX6_copy 175 = .ok (.iastore, 1) := by decide +kernel
theorem dX6_copy_176 : decode cX6_copy 176 = .ok (.iinc 7 1, 3) := by decide +kernel
theorem dX6_copy_179 : decode cX6_copy 179 = .ok (.goto (-58), 3) := by decide +kernel
theorem dX6_copy_182 : decode cX6_copy 182 = .ok (.iload 5, 2) := by decide +kernel
theorem dX6_copy_184 : decode cX6_copy 184 = .ok (.ireturn, 1) := by decide +kernel
theorem dX6_chain_0 : decode cX6_chain 0 = .ok (.iload_n 1, 1) := by decide +kernel
theorem dX6_chain_1 : decode cX6_chain 1 = .ok (.invokestatic 318, 3) := by decide +kernel
theorem dX6_chain_4 : decode cX6_chain 4 = .ok (.ifCond .eq 28, 3) := by decide +kernel
theorem dX6_chain_7 : decode cX6_chain 7 = .ok (.iload_n 2, 1) := by decide +kernel
theorem dX6_chain_8 : decode cX6_chain 8 = .ok (.i2l, 1) := by decide +kernel
theorem dX6_chain_9 : decode cX6_chain 9 = .ok (.lconst 0, 1) := by decide +kernel
theorem dX6_chain_10 : decode cX6_chain 10 = .ok (.ldc2_w 285, 3) := by decide +kernel
theorem dX6_chain_13 : decode cX6_chain 13 = .ok (.invokestatic 70, 3) := by decide +kernel
theorem dX6_chain_16 : decode cX6_chain 16 = .ok (.ifCond .eq 16, 3) := by decide +kernel
theorem dX6_chain_19 : decode cX6_chain 19 = .ok (.iload 4, 2) := by decide +kernel
theorem dX6_chain_21 : decode cX6_chain 21 = .ok (.i2l, 1) := by decide +kernel
theorem dX6_chain_22 : decode cX6_chain 22 = .ok (.lconst 0, 1) := by decide +kernel
theorem dX6_chain_23 : decode cX6_chain 23 = .ok (.ldc2_w 347, 3) := by decide +kernel
theorem dX6_chain_26 : decode cX6_chain 26 = .ok (.invokestatic 70, 3) := by decide +kernel
theorem dX6_chain_29 : decode cX6_chain 29 = .ok (.ifCond .ne 6, 3) := by decide +kernel
theorem dX6_chain_32 : decode cX6_chain 32 = .ok (.bipush (-2), 2) := by decide +kernel
theorem dX6_chain_34 : decode cX6_chain 34 = .ok (.ireturn, 1) := by decide +kernel
theorem dX6_chain_35 : decode cX6_chain 35 = .ok (.aload_n 0, 1) := by decide +kernel
theorem dX6_chain_36 : decode cX6_chain 36 = .ok (.getfield 47, 3) := by decide +kernel
theorem dX6_chain_39 : decode cX6_chain 39 = .ok (.iload_n 1, 1) := by decide +kernel
theorem dX6_chain_40 : decode cX6_chain 40 = .ok (.baload, 1) := by decide +kernel
theorem dX6_chain_41 : decode cX6_chain 41 = .ok (.ifCond .eq 16, 3) := by decide +kernel
theorem dX6_chain_44 : decode cX6_chain 44 = .ok (.aload_n 0, 1) := by decide +kernel
theorem dX6_chain_45 : decode cX6_chain 45 = .ok (.getfield 51, 3) := by decide +kernel
theorem dX6_chain_48 : decode cX6_chain 48 = .ok (.iload_n 1, 1) := by decide +kernel
theorem dX6_chain_49 : decode cX6_chain 49 = .ok (.iaload, 1) := by decide +kernel
theorem dX6_chain_50 : decode cX6_chain 50 = .ok (.iload_n 2, 1) := by decide +kernel
theorem dX6_chain_51 : decode cX6_chain 51 = .ok (.if_icmp .eq 6, 3) := by decide +kernel
theorem dX6_chain_54 : decode cX6_chain 54 = .ok (.bipush (-13), 2) := by decide +kernel
theorem dX6_chain_56 : decode cX6_chain 56 = .ok (.ireturn, 1) := by decide +kernel
theorem dX6_chain_57 : decode cX6_chain 57 = .ok (.aload_n 0, 1) := by decide +kernel
theorem dX6_chain_58 : decode cX6_chain 58 = .ok (.getfield 47, 3) := by decide +kernel
theorem dX6_chain_61 : decode cX6_chain 61 = .ok (.iload_n 1, 1) := by decide +kernel
theorem dX6_chain_62 : decode cX6_chain 62 = .ok (.baload, 1) := by decide +kernel
theorem dX6_chain_63 : decode cX6_chain 63 = .ok (.ifCond .ne 6, 3) := by decide +kernel
theorem dX6_chain_66 : decode cX6_chain 66 = .ok (.bipush (-11), 2) := by decide +kernel
theorem dX6_chain_68 : decode cX6_chain 68 = .ok (.ireturn, 1) := by decide +kernel
theorem dX6_chain_69 : decode cX6_chain 69 = .ok (.iconst 0, 1) := by decide +kernel
theorem dX6_chain_70 : decode cX6_chain 70 = .ok (.istore 5, 2) := by decide +kernel
theorem dX6_chain_72 : decode cX6_chain 72 = .ok (.iconst 0, 1) := by decide +kernel
theorem dX6_chain_73 : decode cX6_chain 73 = .ok (.istore 6, 2) := by decide +kernel
theorem dX6_chain_75 : decode cX6_chain 75 = .ok (.iload 6, 2) := by decide +kernel
theorem dX6_chain_77 : decode cX6_chain 77 = .ok (.iload 4, 2) := by decide +kernel
theorem dX6_chain_79 : decode cX6_chain 79 = .ok (.if_icmp .ge 88, 3) := by decide +kernel
theorem dX6_chain_82 : decode cX6_chain 82 = .ok (.iload_n 3, 1) := by decide +kernel
theorem dX6_chain_83 : decode cX6_chain 83 = .ok (.ifCond .lt 20, 3) := by decide +kernel
theorem dX6_chain_86 : decode cX6_chain 86 = .ok (.iload_n 3, 1) := by decide +kernel
theorem dX6_chain_87 : decode cX6_chain 87 = .ok (.aload_n 0, 1) := by decide +kernel
theorem dX6_chain_88 : decode cX6_chain 88 = .ok (.getfield 54, 3) := by decide +kernel
theorem dX6_chain_91 : decode cX6_chain 91 = .ok (.iload_n 1, 1) := by decide +kernel
theorem dX6_chain_92 : decode cX6_chain 92 = .ok (.iaload, 1) := by decide +kernel
theorem dX6_chain_93 : decode cX6_chain 93 = .ok (.iconst 3, 1) := by decide +kernel
theorem dX6_chain_94 : decode cX6_chain 94 = .ok (.iload 6, 2) := by decide +kernel
theorem dX6_chain_96 : decode cX6_chain 96 = .ok (.imul, 1) := by decide +kernel
theorem dX6_chain_97 : decode cX6_chain 97 = .ok (.isub, 1) := by decide +kernel
theorem dX6_chain_98 : decode cX6_chain 98 = .ok (.iconst 3, 1) := by decide +kernel
theorem dX6_chain_99 : decode cX6_chain 99 = .ok (.isub, 1) := by decide +kernel
theorem dX6_chain_100 : decode cX6_chain 100 = .ok (.if_icmp .le 6, 3) := by decide +kernel
theorem dX6_chain_103 : decode cX6_chain 103 = .ok (.bipush (-12), 2) := by decide +kernel
theorem dX6_chain_105 : decode cX6_chain 105 = .ok (.ireturn, 1) := by decide +kernel
theorem dX6_chain_106 : decode cX6_chain 106 = .ok (.bipush 40, 2) := by decide +kernel
theorem dX6_chain_108 : decode cX6_chain 108 = .ok (.iload_n 1, 1) := by decide +kernel
theorem dX6_chain_109 : decode cX6_chain 109 = .ok (.imul, 1) := by decide +kernel
theorem dX6_chain_110 : decode cX6_chain 110 = .ok (.iload_n 3, 1) := by decide +kernel
theorem dX6_chain_111 : decode cX6_chain 111 = .ok (.iadd, 1) := by decide +kernel
theorem dX6_chain_112 : decode cX6_chain 112 = .ok (.iconst 3, 1) := by decide +kernel
theorem dX6_chain_113 : decode cX6_chain 113 = .ok (.iload 6, 2) := by decide +kernel
theorem dX6_chain_115 : decode cX6_chain 115 = .ok (.imul, 1) := by decide +kernel
theorem dX6_chain_116 : decode cX6_chain 116 = .ok (.iadd, 1) := by decide +kernel
theorem dX6_chain_117 : decode cX6_chain 117 = .ok (.istore 7, 2) := by decide +kernel
theorem dX6_chain_119 : decode cX6_chain 119 = .ok (.iload 5, 2) := by decide +kernel
theorem dX6_chain_121 : decode cX6_chain 121 = .ok (.aload_n 0, 1) := by decide +kernel
theorem dX6_chain_122 : decode cX6_chain 122 = .ok (.aload_n 0, 1) := by decide +kernel
theorem dX6_chain_123 : decode cX6_chain 123 = .ok (.getfield 57, 3) := by decide +kernel
theorem dX6_chain_126 : decode cX6_chain 126 = .ok (.iload 7, 2) := by decide +kernel
theorem dX6_chain_128 : decode cX6_chain 128 = .ok (.iaload, 1) := by decide +kernel
theorem dX6_chain_129 : decode cX6_chain 129 = .ok (.aload_n 0, 1) := by decide +kernel
theorem dX6_chain_130 : decode cX6_chain 130 = .ok (.getfield 57, 3) := by decide +kernel
theorem dX6_chain_133 : decode cX6_chain 133 = .ok (.iload 7, 2) := by decide +kernel
theorem dX6_chain_135 : decode cX6_chain 135 = .ok (.iconst 1, 1) := by decide +kernel
theorem dX6_chain_136 : decode cX6_chain 136 = .ok (.iadd, 1) := by decide +kernel
theorem dX6_chain_137 : decode cX6_chain 137 = .ok (.iaload, 1) := by decide +kernel
theorem dX6_chain_138 : decode cX6_chain 138 = .ok (.aload_n 0, 1) := by decide +kernel
theorem dX6_chain_139 : decode cX6_chain 139 = .ok (.getfield 57, 3) := by decide +kernel
theorem dX6_chain_142 : decode cX6_chain 142 = .ok (.iload 7, 2) := by decide +kernel
theorem dX6_chain_144 : decode cX6_chain 144 = .ok (.iconst 2, 1) := by decide +kernel
theorem dX6_chain_145 : decode cX6_chain 145 = .ok (.iadd, 1) := by decide +kernel
theorem dX6_chain_146 : decode cX6_chain 146 = .ok (.iaload, 1) := by decide +kernel
theorem dX6_chain_147 : decode cX6_chain 147 = .ok (.invokevirtual 349, 3) := by decide +kernel
theorem dX6_chain_150 : decode cX6_chain 150 = .ok (.ifCond .lt 7, 3) := by decide +kernel
theorem dX6_chain_153 : decode cX6_chain 153 = .ok (.iconst 1, 1) := by decide +kernel
theorem dX6_chain_154 : decode cX6_chain 154 = .ok (.goto 4, 3) := by decide +kernel
theorem dX6_chain_157 : decode cX6_chain 157 = .ok (.iconst 0, 1) := by decide +kernel
theorem dX6_chain_158 : decode cX6_chain 158 = .ok (.iadd, 1) := by decide +kernel
theorem dX6_chain_159 : decode cX6_chain 159 = .ok (.istore 5, 2) := by decide +kernel
theorem dX6_chain_161 : decode cX6_chain 161 = .ok (.iinc 6 1, 3) := by decide +kernel
theorem dX6_chain_164 : decode cX6_chain 164 = .ok (.goto (-89), 3) := by decide +kernel
theorem dX6_chain_167 : decode cX6_chain 167 = .ok (.iload 5, 2) := by decide +kernel
theorem dX6_chain_169 : decode cX6_chain 169 = .ok (.ireturn, 1) := by decide +kernel
theorem dX6_over_0 : decode cX6_over 0 = .ok (.iload_n 0, 1) := by decide +kernel
theorem dX6_over_1 : decode cX6_over 1 = .ok (.ifCond .ne 7, 3) := by decide +kernel
theorem dX6_over_4 : decode cX6_over 4 = .ok (.iconst (-1), 1) := by decide +kernel
theorem dX6_over_5 : decode cX6_over 5 = .ok (.goto 22, 3) := by decide +kernel
theorem dX6_over_8 : decode cX6_over 8 = .ok (.iload_n 0, 1) := by decide +kernel
theorem dX6_over_9 : decode cX6_over 9 = .ok (.iconst 3, 1) := by decide +kernel
theorem dX6_over_10 : decode cX6_over 10 = .ok (.if_icmp .ne 7, 3) := by decide +kernel
theorem dX6_over_13 : decode cX6_over 13 = .ok (.iconst 1, 1) := by decide +kernel
theorem dX6_over_14 : decode cX6_over 14 = .ok (.goto 13, 3) := by decide +kernel
theorem dX6_over_17 : decode cX6_over 17 = .ok (.iload_n 0, 1) := by decide +kernel
theorem dX6_over_18 : decode cX6_over 18 = .ok (.iconst 4, 1) := by decide +kernel
theorem dX6_over_19 : decode cX6_over 19 = .ok (.if_icmp .ne 7, 3) := by decide +kernel
theorem dX6_over_22 : decode cX6_over 22 = .ok (.iconst 2, 1) := by decide +kernel
theorem dX6_over_23 : decode cX6_over 23 = .ok (.goto 4, 3) := by decide +kernel
theorem dX6_over_26 : decode cX6_over 26 = .ok (.iconst 0, 1) := by decide +kernel
theorem dX6_over_27 : decode cX6_over 27 = .ok (.ireturn, 1) := by decide +kernel
theorem dX6_taken_0 : decode cX6_taken 0 = .ok (.iload_n 2, 1) := by decide +kernel
theorem dX6_taken_1 : decode cX6_taken 1 = .ok (.i2l, 1) := by decide +kernel
theorem dX6_taken_2 : decode cX6_taken 2 = .ok (.lconst 0, 1) := by decide +kernel
theorem dX6_taken_3 : decode cX6_taken 3 = .ok (.ldc2_w 111, 3) := by decide +kernel
theorem dX6_taken_6 : decode cX6_taken 6 = .ok (.invokestatic 70, 3) := by decide +kernel
theorem dX6_taken_9 : decode cX6_taken 9 = .ok (.ifCond .ne 6, 3) := by decide +kernel
theorem dX6_taken_12 : decode cX6_taken 12 = .ok (.bipush (-2), 2) := by decide +kernel
theorem dX6_taken_14 : decode cX6_taken 14 = .ok (.ireturn, 1) := by decide +kernel
theorem dX6_taken_15 : decode cX6_taken 15 = .ok (.aload_n 0, 1) := by decide +kernel
theorem dX6_taken_16 : decode cX6_taken 16 = .ok (.iload_n 1, 1) := by decide +kernel
theorem dX6_taken_17 : decode cX6_taken 17 = .ok (.invokevirtual 74, 3) := by decide +kernel
theorem dX6_taken_20 : decode cX6_taken 20 = .ok (.ifCond .ne 6, 3) := by decide +kernel
theorem dX6_taken_23 : decode cX6_taken 23 = .ok (.bipush (-11), 2) := by decide +kernel
theorem dX6_taken_25 : decode cX6_taken 25 = .ok (.ireturn, 1) := by decide +kernel
theorem dX6_taken_26 : decode cX6_taken 26 = .ok (.aload_n 0, 1) := by decide +kernel
theorem dX6_taken_27 : decode cX6_taken 27 = .ok (.getfield 23, 3) := by decide +kernel
theorem dX6_taken_30 : decode cX6_taken 30 = .ok (.iconst 3, 1) := by decide +kernel
theorem dX6_taken_31 : decode cX6_taken 31 = .ok (.iload_n 1, 1) := by decide +kernel
theorem dX6_taken_32 : decode cX6_taken 32 = .ok (.imul, 1) := by decide +kernel
theorem dX6_taken_33 : decode cX6_taken 33 = .ok (.iconst 2, 1) := by decide +kernel
theorem dX6_taken_34 : decode cX6_taken 34 = .ok (.iadd, 1) := by decide +kernel
theorem dX6_taken_35 : decode cX6_taken 35 = .ok (.iaload, 1) := by decide +kernel
theorem dX6_taken_36 : decode cX6_taken 36 = .ok (.istore_n 3, 1) := by decide +kernel
theorem dX6_taken_37 : decode cX6_taken 37 = .ok (.iload_n 3, 1) := by decide +kernel
theorem dX6_taken_38 : decode cX6_taken 38 = .ok (.iconst (-1), 1) := by decide +kernel
theorem dX6_taken_39 : decode cX6_taken 39 = .ok (.if_icmp .eq 16, 3) := by decide +kernel
theorem dX6_taken_42 : decode cX6_taken 42 = .ok (.iload_n 3, 1) := by decide +kernel
theorem dX6_taken_43 : decode cX6_taken 43 = .ok (.iload_n 2, 1) := by decide +kernel
theorem dX6_taken_44 : decode cX6_taken 44 = .ok (.if_icmp .eq 11, 3) := by decide +kernel
theorem dX6_taken_47 : decode cX6_taken 47 = .ok (.iload_n 3, 1) := by decide +kernel
theorem dX6_taken_48 : decode cX6_taken 48 = .ok (.invokestatic 352, 3) := by decide +kernel
theorem dX6_taken_51 : decode cX6_taken 51 = .ok (.istore_n 3, 1) := by decide +kernel
theorem dX6_taken_52 : decode cX6_taken 52 = .ok (.goto (-15), 3) := by decide +kernel
theorem dX6_taken_55 : decode cX6_taken 55 = .ok (.iload_n 3, 1) := by decide +kernel
theorem dX6_taken_56 : decode cX6_taken 56 = .ok (.iload_n 2, 1) := by decide +kernel
theorem dX6_taken_57 : decode cX6_taken 57 = .ok (.if_icmp .ne 14, 3) := by decide +kernel
theorem dX6_taken_60 : decode cX6_taken 60 = .ok (.aload_n 0, 1) := by decide +kernel
theorem dX6_taken_61 : decode cX6_taken 61 = .ok (.getfield 23, 3) := by decide +kernel
theorem dX6_taken_64 : decode cX6_taken 64 = .ok (.iconst 3, 1) := by decide +kernel
theorem dX6_taken_65 : decode cX6_taken 65 = .ok (.iload_n 1, 1) := by decide +kernel
theorem dX6_taken_66 : decode cX6_taken 66 = .ok (.imul, 1) := by decide +kernel
theorem dX6_taken_67 : decode cX6_taken 67 = .ok (.iaload, 1) := by decide +kernel
theorem dX6_taken_68 : decode cX6_taken 68 = .ok (.goto 5, 3) := by decide +kernel
theorem dX6_taken_71 : decode cX6_taken 71 = .ok (.bipush (-13), 2) := by decide +kernel
theorem dX6_taken_73 : decode cX6_taken 73 = .ok (.ireturn, 1) := by decide +kernel
