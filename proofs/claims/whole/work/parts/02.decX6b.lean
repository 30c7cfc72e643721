theorem dX6_read_94 : decode cX6_read 94 = .ok (.aload_n 0, 1) := by decide +kernel
theorem dX6_read_95 : decode cX6_read 95 = .ok (.getfield 165, 3) := by decide +kernel
theorem dX6_read_98 : decode cX6_read 98 = .ok (.ifCond .eq 7, 3) := by decide +kernel
theorem dX6_read_101 : decode cX6_read 101 = .ok (.iconst 0, 1) := by decide +kernel
theorem dX6_read_102 : decode cX6_read 102 = .ok (.goto 24, 3) := by decide +kernel
theorem dX6_read_105 : decode cX6_read 105 = .ok (.aload_n 0, 1) := by decide +kernel
theorem dX6_read_106 : decode cX6_read 106 = .ok (.aload_n 0, 1) := by decide +kernel
theorem dX6_read_107 : decode cX6_read 107 = .ok (.bipush 116, 2) := by decide +kernel
theorem dX6_read_109 : decode cX6_read 109 = .ok (.bipush 105, 2) := by decide +kernel
theorem dX6_read_111 : decode cX6_read 111 = .ok (.bipush 114, 2) := by decide +kernel
theorem dX6_read_113 : decode cX6_read 113 = .ok (.bipush 101, 2) := by decide +kernel
theorem dX6_read_115 : decode cX6_read 115 = .ok (.bipush 115, 2) := by decide +kernel
theorem dX6_read_117 : decode cX6_read 117 = .ok (.iconst 0, 1) := by decide +kernel
theorem dX6_read_118 : decode cX6_read 118 = .ok (.iconst 0, 1) := by decide +kernel
theorem dX6_read_119 : decode cX6_read 119 = .ok (.iconst 0, 1) := by decide +kernel
theorem dX6_read_120 : decode cX6_read 120 = .ok (.invokevirtual 184, 3) := by decide +kernel
theorem dX6_read_123 : decode cX6_read 123 = .ok (.invokevirtual 239, 3) := by decide +kernel
theorem dX6_read_126 : decode cX6_read 126 = .ok (.istore 5, 2) := by decide +kernel
theorem dX6_read_128 : decode cX6_read 128 = .ok (.aload_n 0, 1) := by decide +kernel
theorem dX6_read_129 : decode cX6_read 129 = .ok (.getfield 165, 3) := by decide +kernel
theorem dX6_read_132 : decode cX6_read 132 = .ok (.ifCond .ne 14, 3) := by decide +kernel
theorem dX6_read_135 : decode cX6_read 135 = .ok (.aload_n 0, 1) := by decide +kernel
theorem dX6_read_136 : decode cX6_read 136 = .ok (.getfield 148, 3) := by decide +kernel
theorem dX6_read_139 : decode cX6_read 139 = .ok (.ifCond .eq 7, 3) := by decide +kernel
theorem dX6_read_142 : decode cX6_read 142 = .ok (.aload_n 0, 1) := by decide +kernel
theorem dX6_read_143 : decode cX6_read 143 = .ok (.invokevirtual 178, 3) := by decide +kernel
theorem dX6_read_146 : decode cX6_read 146 = .ok (.iload_n 2, 1) := by decide +kernel
theorem dX6_read_147 : decode cX6_read 147 = .ok (.ifCond .ne 7, 3) := by decide +kernel
theorem dX6_read_150 : decode cX6_read 150 = .ok (.iload_n 3, 1) := by decide +kernel
theorem dX6_read_151 : decode cX6_read 151 = .ok (.goto 15, 3) := by decide +kernel
theorem dX6_read_154 : decode cX6_read 154 = .ok (.iload_n 2, 1) := by decide +kernel
theorem dX6_read_155 : decode cX6_read 155 = .ok (.iconst 1, 1) := by decide +kernel
theorem dX6_read_156 : decode cX6_read 156 = .ok (.if_icmp .ne 8, 3) := by decide +kernel
theorem dX6_read_159 : decode cX6_read 159 = .ok (.iload 4, 2) := by decide +kernel
theorem dX6_read_161 : decode cX6_read 161 = .ok (.goto 5, 3) := by decide +kernel
theorem dX6_read_164 : decode cX6_read 164 = .ok (.iload 5, 2) := by decide +kernel
theorem dX6_read_166 : decode cX6_read 166 = .ok (.ireturn, 1) := by decide +kernel
theorem dX6_text_0 : decode cX6_text 0 = .ok (.aload_n 0, 1) := by decide +kernel
theorem dX6_text_1 : decode cX6_text 1 = .ok (.getfield 64, 3) := by decide +kernel
theorem dX6_text_4 : decode cX6_text 4 = .ok (.bipush 6, 2) := by decide +kernel
theorem dX6_text_6 : decode cX6_text 6 = .ok (.if_icmp .ne 6, 3) := by decide +kernel
theorem dX6_text_9 : decode cX6_text 9 = .ok (.bipush (-4), 2) := by decide +kernel
theorem dX6_text_11 : decode cX6_text 11 = .ok (.ireturn, 1) := by decide +kernel
theorem dX6_text_12 : decode cX6_text 12 = .ok (.iconst 0, 1) := by decide +kernel
theorem dX6_text_13 : decode cX6_text 13 = .ok (.istore_n 1, 1) := by decide +kernel
theorem dX6_text_14 : decode cX6_text 14 = .ok (.iload_n 1, 1) := by decide +kernel
theorem dX6_text_15 : decode cX6_text 15 = .ok (.aload_n 0, 1) := by decide +kernel
theorem dX6_text_16 : decode cX6_text 16 = .ok (.getfield 130, 3) := by decide +kernel
theorem dX6_text_19 : decode cX6_text 19 = .ok (.if_icmp .ge 30, 3) := by decide +kernel
theorem dX6_text_22 : decode cX6_text 22 = .ok (.aload_n 0, 1) := by decide +kernel
theorem dX6_text_23 : decode cX6_text 23 = .ok (.getfield 13, 3) := by decide +kernel
theorem dX6_text_26 : decode cX6_text 26 = .ok (.sipush 160, 3) := by decide +kernel
theorem dX6_text_29 : decode cX6_text 29 = .ok (.aload_n 0, 1) := by decide +kernel
theorem dX6_text_30 : decode cX6_text 30 = .ok (.getfield 64, 3) := by decide +kernel
theorem dX6_text_33 : decode cX6_text 33 = .ok (.imul, 1) := by decide +kernel
theorem dX6_text_34 : decode cX6_text 34 = .ok (.iload_n 1, 1) := by decide +kernel
theorem dX6_text_35 : decode cX6_text 35 = .ok (.iadd, 1) := by decide +kernel
theorem dX6_text_36 : decode cX6_text 36 = .ok (.aload_n 0, 1) := by decide +kernel
theorem dX6_text_37 : decode cX6_text 37 = .ok (.getfield 20, 3) := by decide +kernel
theorem dX6_text_40 : decode cX6_text 40 = .ok (.iload_n 1, 1) := by decide +kernel
theorem dX6_text_41 : decode cX6_text 41 = .ok (.iaload, 1) := by decide +kernel
theorem dX6_text_42 : decode cX6_text 42 = .ok (.iastore, 1) := by decide +kernel
theorem dX6_text_43 : decode cX6_text 43 = .ok (.iinc 1 1, 3) := by decide +kernel
theorem dX6_text_46 : decode cX6_text 46 = .ok (.goto (-32), 3) := by decide +kernel
theorem dX6_text_49 : decode cX6_text 49 = .ok (.aload_n 0, 1) := by decide +kernel
theorem dX6_text_50 : decode cX6_text 50 = .ok (.getfield 17, 3) := by decide +kernel
theorem dX6_text_53 : decode cX6_text 53 = .ok (.aload_n 0, 1) := by decide +kernel
theorem dX6_text_54 : decode cX6_text 54 = .ok (.getfield 64, 3) := by decide +kernel
theorem dX6_text_57 : decode cX6_text 57 = .ok (.aload_n 0, 1) := by decide +kernel
theorem dX6_text_58 : decode cX6_text 58 = .ok (.getfield 130, 3) := by decide +kernel
theorem dX6_text_61 : decode cX6_text 61 = .ok (.iastore, 1) := by decide +kernel
theorem dX6_text_62 : decode cX6_text 62 = .ok (.aload_n 0, 1) := by decide +kernel
theorem dX6_text_63 : decode cX6_text 63 = .ok (.iconst 0, 1) := by decide +kernel
theorem dX6_text_64 : decode cX6_text 64 = .ok (.putfield 130, 3) := by decide +kernel
theorem dX6_text_67 : decode cX6_text 67 = .ok (.aload_n 0, 1) := by decide +kernel
theorem dX6_text_68 : decode cX6_text 68 = .ok (.aload_n 0, 1) := by decide +kernel
theorem dX6_text_69 : decode cX6_text 69 = .ok (.getfield 64, 3) := by decide +kernel
theorem dX6_text_72 : decode cX6_text 72 = .ok (.iconst 0, 1) := by decide +kernel
theorem dX6_text_73 : decode cX6_text 73 = .ok (.invokevirtual 243, 3) := by decide +kernel
theorem dX6_text_76 : decode cX6_text 76 = .ok (.istore_n 1, 1) := by decide +kernel
theorem dX6_text_77 : decode cX6_text 77 = .ok (.aload_n 0, 1) := by decide +kernel
theorem dX6_text_78 : decode cX6_text 78 = .ok (.getfield 165, 3) := by decide +kernel
theorem dX6_text_81 : decode cX6_text 81 = .ok (.ifCond .eq 11, 3) := by decide +kernel
theorem dX6_text_84 : decode cX6_text 84 = .ok (.bipush (-100), 2) := by decide +kernel
theorem dX6_text_86 : decode cX6_text 86 = .ok (.aload_n 0, 1) := by decide +kernel
theorem dX6_text_87 : decode cX6_text 87 = .ok (.getfield 169, 3) := by decide +kernel
theorem dX6_text_90 : decode cX6_text 90 = .ok (.isub, 1) := by decide +kernel
theorem dX6_text_91 : decode cX6_text 91 = .ok (.ireturn, 1) := by decide +kernel
theorem dX6_text_92 : decode cX6_text 92 = .ok (.aload_n 0, 1) := by decide +kernel
theorem dX6_text_93 : decode cX6_text 93 = .ok (.dup, 1) := by decide +kernel
theorem dX6_text_94 : decode cX6_text 94 = .ok (.getfield 64, 3) := by decide +kernel
theorem dX6_text_97 : decode cX6_text 97 = .ok (.iconst 1, 1) := by decide +kernel
theorem dX6_text_98 : decode cX6_text 98 = .ok (.iadd, 1) := by decide +kernel
theorem dX6_text_99 : decode cX6_text 99 = .ok (.putfield 64, 3) := by decide +kernel
theorem dX6_text_102 : decode cX6_text 102 = .ok (.aload_n 0, 1) := by decide +kernel
theorem dX6_text_103 : decode cX6_text 103 = .ok (.getfield 64, 3) := by decide +kernel
theorem dX6_text_106 : decode cX6_text 106 = .ok (.iconst 1, 1) := by decide +kernel
theorem dX6_text_107 : decode cX6_text 107 = .ok (.isub, 1) := by decide +kernel
theorem dX6_text_108 : decode cX6_text 108 = .ok (.ireturn, 1) := by decide +kernel
theorem dX6_force_0 : decode cX6_force 0 = .ok (.iload_n 1, 1) := by decide +kernel
theorem dX6_force_1 : decode cX6_force 1 = .ok (.i2l, 1) := by decide +kernel
theorem dX6_force_2 : decode cX6_force 2 = .ok (.lconst 0, 1) := by decide +kernel
theorem dX6_force_3 : decode cX6_force 3 = .ok (.aload_n 0, 1) := by decide +kernel
theorem dX6_force_4 : decode cX6_force 4 = .ok (.getfield 64, 3) := by decide +kernel
theorem dX6_force_7 : decode cX6_force 7 = .ok (.iconst 1, 1) := by decide +kernel
theorem dX6_force_8 : decode cX6_force 8 = .ok (.isub, 1) := by decide +kernel
theorem dX6_force_9 : decode cX6_force 9 = .ok (.i2l, 1) := by decide +kernel
theorem dX6_force_10 : decode cX6_force 10 = .ok (.invokestatic 70, 3) := by decide +kernel
theorem dX6_force_13 : decode cX6_force 13 = .ok (.ifCond .ne 6, 3) := by decide +kernel
theorem dX6_force_16 : decode cX6_force 16 = .ok (.bipush (-2), 2) := by decide +kernel
theorem dX6_force_18 : decode cX6_force 18 = .ok (.ireturn, 1) := by decide +kernel
theorem dX6_force_19 : decode cX6_force 19 = .ok (.aload_n 0, 1) := by decide +kernel
theorem dX6_force_20 : decode cX6_force 20 = .ok (.getfield 108, 3) := by decide +kernel
theorem dX6_force_23 : decode cX6_force 23 = .ok (.istore_n 2, 1) := by decide +kernel
theorem dX6_force_24 : decode cX6_force 24 = .ok (.aload_n 0, 1) := by decide +kernel
theorem dX6_force_25 : decode cX6_force 25 = .ok (.iload_n 1, 1) := by decide +kernel
theorem dX6_force_26 : decode cX6_force 26 = .ok (.putfield 108, 3) := by decide +kernel
theorem dX6_force_29 : decode cX6_force 29 = .ok (.iload_n 2, 1) := by decide +kernel
theorem dX6_force_30 : decode cX6_force 30 = .ok (.ireturn, 1) := by decide +kernel
theorem dX6_says_0 : decode cX6_says 0 = .ok (.aload_n 0, 1) := by decide +kernel
theorem dX6_says_1 : decode cX6_says 1 = .ok (.aload_n 0, 1) := by decide +kernel
theorem dX6_says_2 : decode cX6_says 2 = .ok (.getfield 23, 3) := by decide +kernel
theorem dX6_says_5 : decode cX6_says 5 = .ok (.iconst 3, 1) := by decide +kernel
theorem dX6_says_6 : decode cX6_says 6 = .ok (.iload_n 2, 1) := by decide +kernel
theorem dX6_says_7 : decode cX6_says 7 = .ok (.imul, 1) := by decide +kernel
theorem dX6_says_8 : decode cX6_says 8 = .ok (.iconst 1, 1) := by decide +kernel
theorem dX6_says_9 : decode cX6_says 9 = .ok (.iadd, 1) := by decide +kernel
theorem dX6_says_10 : decode cX6_says 10 = .ok (.iaload, 1) := by decide +kernel
theorem dX6_says_11 : decode cX6_says 11 = .ok (.putfield 188, 3) := by decide +kernel
theorem dX6_says_14 : decode cX6_says 14 = .ok (.aload_n 0, 1) := by decide +kernel
theorem dX6_says_15 : decode cX6_says 15 = .ok (.iload_n 3, 1) := by decide +kernel
theorem dX6_says_16 : decode cX6_says 16 = .ok (.iconst (-1), 1) := by decide +kernel
theorem dX6_says_17 : decode cX6_says 17 = .ok (.if_icmp .ne 7, 3) := by decide +kernel
theorem dX6_says_20 : decode cX6_says 20 = .ok (.iconst 0, 1) := by decide +kernel
theorem dX6_says_21 : decode cX6_says 21 = .ok (.goto 13, 3) := by decide +kernel
theorem dX6_says_24 : decode cX6_says 24 = .ok (.aload_n 0, 1) := by decide +kernel
theorem dX6_says_25 : decode cX6_says 25 = .ok (.getfield 23, 3) := by decide +kernel
theorem dX6_says_28 : decode cX6_says 28 = .ok (.iconst 3, 1) := by decide +kernel
theorem dX6_says_29 : decode cX6_says 29 = .ok (.iload_n 3, 1) := by decide +kernel
theorem dX6_says_30 : decode cX6_says 30 = .ok (.imul, 1) := by decide +kernel
theorem dX6_says_31 : decode cX6_says 31 = .ok (.iconst 1, 1) := by decide +kernel
theorem dX6_says_32 : decode cX6_says 32 = .ok (.iadd, 1) := by decide +kernel
theorem dX6_says_33 : decode cX6_says 33 = .ok (.iaload, 1) := by decide +kernel
theorem dX6_says_34 : decode cX6_says 34 = .ok (.putfield 191, 3) := by decide +kernel
theorem dX6_says_37 : decode cX6_says 37 = .ok (.aload_n 0, 1) := by decide +kernel
theorem dX6_says_38 : decode cX6_says 38 = .ok (.aload_n 0, 1) := by decide +kernel
theorem dX6_says_39 : decode cX6_says 39 = .ok (.getfield 23, 3) := by decide +kernel
theorem dX6_says_42 : decode cX6_says 42 = .ok (.iconst 3, 1) := by decide +kernel
theorem dX6_says_43 : decode cX6_says 43 = .ok (.iload_n 2, 1) := by decide +kernel
theorem dX6_says_44 : decode cX6_says 44 = .ok (.imul, 1) := by decide +kernel
theorem dX6_says_45 : decode cX6_says 45 = .ok (.iaload, 1) := by decide +kernel
theorem dX6_says_46 : decode cX6_says 46 = .ok (.putfield 194, 3) := by decide +kernel
theorem dX6_says_49 : decode cX6_says 49 = .ok (.aload_n 0, 1) := by decide +kernel
theorem dX6_says_50 : decode cX6_says 50 = .ok (.aload_n 0, 1) := by decide +kernel
theorem dX6_says_51 : decode cX6_says 51 = .ok (.getfield 102, 3) := by decide +kernel
theorem dX6_says_54 : decode cX6_says 54 = .ok (.putfield 197, 3) := by decide +kernel
theorem dX6_says_57 : decode cX6_says 57 = .ok (.aload_n 0, 1) := by decide +kernel
theorem dX6_says_58 : decode cX6_says 58 = .ok (.aload_n 0, 1) := by decide +kernel
theorem dX6_says_59 : decode cX6_says 59 = .ok (.getfield 105, 3) := by decide +kernel
theorem dX6_says_62 : decode cX6_says 62 = .ok (.putfield 200, 3) := by decide +kernel
theorem dX6_says_65 : decode cX6_says 65 = .ok (.aload_n 0, 1) := by decide +kernel
theorem dX6_says_66 : decode cX6_says 66 = .ok (.aload_n 0, 1) := by decide +kernel
theorem dX6_says_67 : decode cX6_says 67 = .ok (.getfield 78, 3) := by decide +kernel
theorem dX6_says_70 : decode cX6_says 70 = .ok (.putfield 203, 3) := by decide +kernel
theorem dX6_says_73 : decode cX6_says 73 = .ok (.aload_n 0, 1) := by decide +kernel
theorem dX6_says_74 : decode cX6_says 74 = .ok (.aload_n 0, 1) := by decide +kernel
theorem dX6_says_75 : decode cX6_says 75 = .ok (.getfield 108, 3) := by decide +kernel
theorem dX6_says_78 : decode cX6_says 78 = .ok (.iload_n 1, 1) := by decide +kernel
theorem dX6_says_79 : decode cX6_says 79 = .ok (.invokevirtual 243, 3) := by decide +kernel
theorem dX6_says_82 : decode cX6_says 82 = .ok (.iconst 0, 1) := by decide +kernel
theorem dX6_says_83 : decode cX6_says 83 = .ok (.bipush 99, 2) := by decide +kernel
theorem dX6_says_85 : decode cX6_says 85 = .ok (.invokestatic 246, 3) := by decide +kernel
theorem dX6_says_88 : decode cX6_says 88 = .ok (.ireturn, 1) := by decide +kernel
theorem dX6_gripsOf_0 : decode cX6_gripsOf 0 = .ok (.aload_n 0, 1) := by decide +kernel
theorem dX6_gripsOf_1 : decode cX6_gripsOf 1 = .ok (.getfield 23, 3) := by decide +kernel
theorem dX6_gripsOf_4 : decode cX6_gripsOf 4 = .ok (.iconst 3, 1) := by decide +kernel
theorem dX6_gripsOf_5 : decode cX6_gripsOf 5 = .ok (.iload_n 1, 1) := by decide +kernel
theorem dX6_gripsOf_6 : decode cX6_gripsOf 6 = .ok (.imul, 1) := by decide +kernel
theorem dX6_gripsOf_7 : decode cX6_gripsOf 7 = .ok (.iconst 2, 1) := by decide +kernel
theorem dX6_gripsOf_8 : decode cX6_gripsOf 8 = .ok (.iadd, 1) := by decide +kernel
theorem dX6_gripsOf_9 : decode cX6_gripsOf 9 = .ok (.iaload, 1) := by decide +kernel
theorem dX6_gripsOf_10 : decode cX6_gripsOf 10 = .ok (.istore_n 3, 1) := by decide +kernel
theorem dX6_gripsOf_11 : decode cX6_gripsOf 11 = .ok (.iload_n 3, 1) := by decide +kernel
theorem dX6_gripsOf_12 : decode cX6_gripsOf 12 = .ok (.iconst 5, 1) := by decide +kernel
theorem dX6_gripsOf_13 : decode cX6_gripsOf 13 = .ok (.if_icmp .eq 27, 3) := by decide +kernel
theorem dX6_gripsOf_16 : decode cX6_gripsOf 16 = .ok (.iload_n 3, 1) := by decide +kernel
theorem dX6_gripsOf_17 : decode cX6_gripsOf 17 = .ok (.iconst 3, 1) := by decide +kernel
theorem dX6_gripsOf_18 : decode cX6_gripsOf 18 = .ok (.if_icmp .ne 43, 3) := by decide +kernel
theorem dX6_gripsOf_21 : decode cX6_gripsOf 21 = .ok (.aload_n 0, 1) := by decide +kernel
theorem dX6_gripsOf_22 : decode cX6_gripsOf 22 = .ok (.getfield 23, 3) := by decide +kernel
theorem dX6_gripsOf_25 : decode cX6_gripsOf 25 = .ok (.iconst 3, 1) := by decide +kernel
theorem dX6_gripsOf_26 : decode cX6_gripsOf 26 = .ok (.iload_n 1, 1) := by decide +kernel
theorem dX6_gripsOf_27 : decode cX6_gripsOf 27 = .ok (.imul, 1) := by decide +kernel
theorem dX6_gripsOf_28 : decode cX6_gripsOf 28 = .ok (.iaload, 1) := by decide +kernel
theorem dX6_gripsOf_29 : decode cX6_gripsOf 29 = .ok (.aload_n 0, 1) := by decide +kernel
theorem dX6_gripsOf_30 : decode cX6_gripsOf 30 = .ok (.getfield 23, 3) := by decide +kernel
theorem dX6_gripsOf_33 : decode cX6_gripsOf 33 = .ok (.iconst 3, 1) := by decide +kernel
theorem dX6_gripsOf_34 : decode cX6_gripsOf 34 = .ok (.iload_n 2, 1) := by decide +kernel
theorem dX6_gripsOf_35 : decode cX6_gripsOf 35 = .ok (.imul, 1) := by decide +kernel
theorem dX6_gripsOf_36 : decode cX6_gripsOf 36 = .ok (.iaload, 1) := by decide +kernel
theorem dX6_gripsOf_37 : decode cX6_gripsOf 37 = .ok (.if_icmp .ne 24, 3) := by decide +kernel
theorem dX6_gripsOf_40 : decode cX6_gripsOf 40 = .ok (.iload_n 3, 1) := by decide +kernel
theorem dX6_gripsOf_41 : decode cX6_gripsOf 41 = .ok (.iconst 5, 1) := by decide +kernel
theorem dX6_gripsOf_42 : decode cX6_gripsOf 42 = .ok (.if_icmp .ne 16, 3) := by decide +kernel
theorem dX6_gripsOf_45 : decode cX6_gripsOf 45 = .ok (.aload_n 0, 1) := by decide +kernel
theorem dX6_gripsOf_46 : decode cX6_gripsOf 46 = .ok (.getfield 23, 3) := by decide +kernel
theorem dX6_gripsOf_49 : decode cX6_gripsOf 49 = .ok (.iconst 3, 1) := by decide +kernel
theorem dX6_gripsOf_50 : decode cX6_gripsOf 50 = .ok (.iload_n 1, 1) := by decide +kernel
theorem dX6_gripsOf_51 : decode cX6_gripsOf 51 = .ok (.imul, 1) := by decide +kernel
theorem dX6_gripsOf_52 : decode cX6_gripsOf 52 = .ok (.iconst 1, 1) := by decide +kernel
theorem dX6_gripsOf_53 : decode cX6_gripsOf 53 = .ok (.iadd, 1) := by decide +kernel
theorem dX6_gripsOf_54 : decode cX6_gripsOf 54 = .ok (.iaload, 1) := by decide +kernel
theorem dX6_gripsOf_55 : decode cX6_gripsOf 55 = .ok (.goto 5, 3) := by decide +kernel
theorem dX6_gripsOf_58 : decode cX6_gripsOf 58 = .ok (.bipush 99, 2) := by decide +kernel
theorem dX6_gripsOf_60 : decode cX6_gripsOf 60 = .ok (.ireturn, 1) := by decide +kernel
theorem dX6_gripsOf_61 : decode cX6_gripsOf 61 = .ok (.aload_n 0, 1) := by decide +kernel
theorem dX6_gripsOf_62 : decode cX6_gripsOf 62 = .ok (.iconst 0, 1) := by decide +kernel
theorem dX6_gripsOf_63 : decode cX6_gripsOf 63 = .ok (.iload_n 1, 1) := by decide +kernel
theorem dX6_gripsOf_64 : decode cX6_gripsOf 64 = .ok (.iload_n 2, 1) := by decide +kernel
theorem dX6_gripsOf_65 : decode cX6_gripsOf 65 = .ok (.invokevirtual 250, 3) := by decide +kernel
theorem dX6_gripsOf_68 : decode cX6_gripsOf 68 = .ok (.istore 4, 2) := by decide +kernel
theorem dX6_gripsOf_70 : decode cX6_gripsOf 70 = .ok (.aload_n 0, 1) := by decide +kernel
theorem dX6_gripsOf_71 : decode cX6_gripsOf 71 = .ok (.getfield 23, 3) := by decide +kernel
theorem dX6_gripsOf_74 : decode cX6_gripsOf 74 = .ok (.iconst 3, 1) := by decide +kernel
theorem dX6_gripsOf_75 : decode cX6_gripsOf 75 = .ok (.iload_n 2, 1) := by decide +kernel
theorem dX6_gripsOf_76 : decode cX6_gripsOf 76 = .ok (.imul, 1) := by decide +kernel
theorem dX6_gripsOf_77 : decode cX6_gripsOf 77 = .ok (.iconst 2, 1) := by decide +kernel
theorem dX6_gripsOf_78 : decode cX6_gripsOf 78 = .ok (.iadd, 1) := by decide +kernel
theorem dX6_gripsOf_79 : decode cX6_gripsOf 79 = .ok (.iaload, 1) := by decide +kernel
theorem dX6_gripsOf_80 : decode cX6_gripsOf 80 = .ok (.istore 5, 2) := by decide +kernel
theorem dX6_gripsOf_82 : decode cX6_gripsOf 82 = .ok (.iload 5, 2) := by decide +kernel
theorem dX6_gripsOf_84 : decode cX6_gripsOf 84 = .ok (.iconst 1, 1) := by decide +kernel
theorem dX6_gripsOf_85 : decode cX6_gripsOf 85 = .ok (.if_icmp .eq 9, 3) := by decide +kernel
theorem dX6_gripsOf_88 : decode cX6_gripsOf 88 = .ok (.iload 5, 2) := by decide +kernel
theorem dX6_gripsOf_90 : decode cX6_gripsOf 90 = .ok (.iconst 3, 1) := by decide +kernel
theorem dX6_gripsOf_91 : decode cX6_gripsOf 91 = .ok (.if_icmp .ne 10, 3) := by decide +kernel
theorem dX6_gripsOf_94 : decode cX6_gripsOf 94 = .ok (.iconst 2, 1) := by decide +kernel
theorem dX6_gripsOf_95 : decode cX6_gripsOf 95 = .ok (.iload 4, 2) := by decide +kernel
theorem dX6_gripsOf_97 : decode cX6_gripsOf 97 = .ok (.imul, 1) := by decide +kernel
theorem dX6_gripsOf_98 : decode cX6_gripsOf 98 = .ok (.goto 5, 3) := by decide +kernel
theorem dX6_gripsOf_101 : decode cX6_gripsOf 101 = .ok (.iload 4, 2) := by decide +kernel
theorem dX6_gripsOf_103 : decode cX6_gripsOf 103 = .ok (.istore 6, 2) := by decide +kernel
theorem dX6_gripsOf_105 : decode cX6_gripsOf 105 = .ok (.iload 4, 2) := by decide +kernel
theorem dX6_gripsOf_107 : decode cX6_gripsOf 107 = .ok (.aload_n 0, 1) := by decide +kernel
theorem dX6_gripsOf_108 : decode cX6_gripsOf 108 = .ok (.getfield 23, 3) := by decide +kernel
theorem dX6_gripsOf_111 : decode cX6_gripsOf 111 = .ok (.iconst 3, 1) := by decide +kernel
theorem dX6_gripsOf_112 : decode cX6_gripsOf 112 = .ok (.iload_n 1, 1) := by decide +kernel
theorem dX6_gripsOf_113 : decode cX6_gripsOf 113 = .ok (.imul, 1) := by decide +kernel
theorem dX6_gripsOf_114 : decode cX6_gripsOf 114 = .ok (.iaload, 1) := by decide +kernel
theorem dX6_gripsOf_115 : decode cX6_gripsOf 115 = .ok (.isub, 1) := by decide +kernel
theorem dX6_gripsOf_116 : decode cX6_gripsOf 116 = .ok (.istore 7, 2) := by decide +kernel
theorem dX6_gripsOf_118 : decode cX6_gripsOf 118 = .ok (.iload_n 3, 1) := by decide +kernel
theorem dX6_gripsOf_119 : decode cX6_gripsOf 119 = .ok (.iconst 1, 1) := by decide +kernel
theorem dX6_gripsOf_120 : decode cX6_gripsOf 120 = .ok (.if_icmp .eq 8, 3) := by decide +kernel
theorem dX6_gripsOf_123 : decode cX6_gripsOf 123 = .ok (.iload_n 3, 1) := by decide +kernel
theorem dX6_gripsOf_124 : decode cX6_gripsOf 124 = .ok (.iconst 3, 1) := by decide +kernel
theorem dX6_gripsOf_125 : decode cX6_gripsOf 125 = .ok (.if_icmp .ne 8, 3) := by decide +kernel
theorem dX6_gripsOf_128 : decode cX6_gripsOf 128 = .ok (.iload 6, 2) := by decide +kernel
theorem dX6_gripsOf_130 : decode cX6_gripsOf 130 = .ok (.goto 36, 3) := by decide +kernel
theorem dX6_gripsOf_133 : decode cX6_gripsOf 133 = .ok (.iload_n 3, 1) := by decide +kernel
theorem dX6_gripsOf_134 : decode cX6_gripsOf 134 = .ok (.iconst 2, 1) := by decide +kernel
theorem dX6_gripsOf_135 : decode cX6_gripsOf 135 = .ok (.if_icmp .ne 8, 3) := by decide +kernel
theorem dX6_gripsOf_138 : decode cX6_gripsOf 138 = .ok (.iload 7, 2) := by decide +kernel
theorem dX6_gripsOf_140 : decode cX6_gripsOf 140 = .ok (.goto 26, 3) := by decide +kernel
theorem dX6_gripsOf_143 : decode cX6_gripsOf 143 = .ok (.iload_n 3, 1) := by decide +kernel
theorem dX6_gripsOf_144 : decode cX6_gripsOf 144 = .ok (.iconst 4, 1) := by decide +kernel
theorem dX6_gripsOf_145 : decode cX6_gripsOf 145 = .ok (.if_icmp .ne 19, 3) := by decide +kernel
theorem dX6_gripsOf_148 : decode cX6_gripsOf 148 = .ok (.iload 7, 2) := by decide +kernel
theorem dX6_gripsOf_150 : decode cX6_gripsOf 150 = .ok (.aload_n 0, 1) := by decide +kernel
theorem dX6_gripsOf_151 : decode cX6_gripsOf 151 = .ok (.getfield 102, 3) := by decide +kernel
theorem dX6_gripsOf_154 : decode cX6_gripsOf 154 = .ok (.iconst 0, 1) := by decide +kernel
theorem dX6_gripsOf_155 : decode cX6_gripsOf 155 = .ok (.bipush 20, 2) := by decide +kernel
theorem dX6_gripsOf_157 : decode cX6_gripsOf 157 = .ok (.invokestatic 246, 3) := by decide +kernel
theorem dX6_gripsOf_160 : decode cX6_gripsOf 160 = .ok (.iadd, 1) := by decide +kernel
theorem dX6_gripsOf_161 : decode cX6_gripsOf 161 = .ok (.goto 5, 3) := by decide +kernel
theorem dX6_gripsOf_164 : decode cX6_gripsOf 164 = .ok (.iload 4, 2) := by decide +kernel
theorem dX6_gripsOf_166 : decode cX6_gripsOf 166 = .ok (.iconst 0, 1) := by decide +kernel
theorem dX6_gripsOf_167 : decode cX6_gripsOf 167 = .ok (.bipush 99, 2) := by decide +kernel
theorem dX6_gripsOf_169 : decode cX6_gripsOf 169 = .ok (.invokestatic 246, 3) := by decide +kernel
theorem dX6_gripsOf_172 : decode cX6_gripsOf 172 = .ok (.ireturn, 1) := by decide +kernel
theorem dX6_handsOf_0 : decode cX6_handsOf 0 = .ok (.aload_n 0, 1) := by decide +kernel
theorem dX6_handsOf_1 : decode cX6_handsOf 1 = .ok (.getfield 23, 3) := by decide +kernel
theorem dX6_handsOf_4 : decode cX6_handsOf 4 = .ok (.iconst 3, 1) := by decide +kernel
theorem dX6_handsOf_5 : decode cX6_handsOf 5 = .ok (.iload_n 1, 1) := by decide +kernel
theorem dX6_handsOf_6 : decode cX6_handsOf 6 = .ok (.imul, 1) := by decide +kernel
theorem dX6_handsOf_7 : decode cX6_handsOf 7 = .ok (.iconst 2, 1) := by decide +kernel
theorem dX6_handsOf_8 : decode cX6_handsOf 8 = .ok (.iadd, 1) := by decide +kernel
theorem dX6_handsOf_9 : decode cX6_handsOf 9 = .ok (.iaload, 1) := by decide +kernel
theorem dX6_handsOf_10 : decode cX6_handsOf 10 = .ok (.istore_n 3, 1) := by decide +kernel
theorem dX6_handsOf_11 : decode cX6_handsOf 11 = .ok (.iload_n 3, 1) := by decide +kernel
theorem dX6_handsOf_12 : decode cX6_handsOf 12 = .ok (.iconst 1, 1) := by decide +kernel
theorem dX6_handsOf_13 : decode cX6_handsOf 13 = .ok (.if_icmp .eq 27, 3) := by decide +kernel
theorem dX6_handsOf_16 : decode cX6_handsOf 16 = .ok (.iload_n 3, 1) := by decide +kernel
theorem dX6_handsOf_17 : decode cX6_handsOf 17 = .ok (.iconst 3, 1) := by decide +kernel
theorem dX6_handsOf_18 : decode cX6_handsOf 18 = .ok (.if_icmp .ne 12, 3) := by decide +kernel
theorem dX6_handsOf_21 : decode cX6_handsOf 21 = .ok (.aload_n 0, 1) := by decide +kernel
theorem dX6_handsOf_22 : decode cX6_handsOf 22 = .ok (.getfield 102, 3) := by decide +kernel
theorem dX6_handsOf_25 : decode cX6_handsOf 25 = .ok (.iconst 2, 1) := by decide +kernel
theorem dX6_handsOf_26 : decode cX6_handsOf 26 = .ok (.irem, 1) := by decide +kernel
theorem dX6_handsOf_27 : decode cX6_handsOf 27 = .ok (.ifCond .eq 13, 3) := by decide +kernel
theorem dX6_handsOf_30 : decode cX6_handsOf 30 = .ok (.iload_n 3, 1) := by decide +kernel
theorem dX6_handsOf_31 : decode cX6_handsOf 31 = .ok (.iconst 4, 1) := by decide +kernel
theorem dX6_handsOf_32 : decode cX6_handsOf 32 = .ok (.if_icmp .ne 10, 3) := by decide +kernel
theorem dX6_handsOf_35 : decode cX6_handsOf 35 = .ok (.iload_n 2, 1) := by decide +kernel
theorem dX6_handsOf_36 : decode cX6_handsOf 36 = .ok (.iconst 5, 1) := by decide +kernel
theorem dX6_handsOf_37 : decode cX6_handsOf 37 = .ok (.if_icmp .ge 5, 3) := by decide +kernel
theorem dX6_handsOf_40 : decode cX6_handsOf 40 = .ok (.iload_n 2, 1) := by decide +kernel
theorem dX6_handsOf_41 : decode cX6_handsOf 41 = .ok (.ireturn, 1) := by decide +kernel
theorem dX6_handsOf_42 : decode cX6_handsOf 42 = .ok (.iload_n 2, 1) := by decide +kernel
theorem dX6_handsOf_43 : decode cX6_handsOf 43 = .ok (.aload_n 0, 1) := by decide +kernel
theorem dX6_handsOf_44 : decode cX6_handsOf 44 = .ok (.iconst 1, 1) := by decide +kernel
theorem dX6_handsOf_45 : decode cX6_handsOf 45 = .ok (.iload_n 1, 1) := by decide +kernel
theorem dX6_handsOf_46 : decode cX6_handsOf 46 = .ok (.iconst (-1), 1) := by decide +kernel
theorem dX6_handsOf_47 : decode cX6_handsOf 47 = .ok (.invokevirtual 250, 3) := by decide +kernel
theorem dX6_handsOf_50 : decode cX6_handsOf 50 = .ok (.isub, 1) := by decide +kernel
theorem dX6_handsOf_51 : decode cX6_handsOf 51 = .ok (.istore 4, 2) := by decide +kernel
theorem dX6_handsOf_53 : decode cX6_handsOf 53 = .ok (.iload_n 3, 1) := by decide +kernel
theorem dX6_handsOf_54 : decode cX6_handsOf 54 = .ok (.iconst 2, 1) := by decide +kernel
theorem dX6_handsOf_55 : decode cX6_handsOf 55 = .ok (.if_icmp .eq 8, 3) := by decide +kernel
theorem dX6_handsOf_58 : decode cX6_handsOf 58 = .ok (.iload_n 3, 1) := by decide +kernel
theorem dX6_handsOf_59 : decode cX6_handsOf 59 = .ok (.iconst 4, 1) := by decide +kernel
theorem dX6_handsOf_60 : decode cX6_handsOf 60 = .ok (.if_icmp .ne 10, 3) := by decide +kernel
theorem dX6_handsOf_63 : decode cX6_handsOf 63 = .ok (.iload 4, 2) := by decide +kernel
theorem dX6_handsOf_65 : decode cX6_handsOf 65 = .ok (.iconst 2, 1) := by decide +kernel
theorem dX6_handsOf_66 : decode cX6_handsOf 66 = .ok (.idiv, 1) := by decide +kernel
theorem dX6_handsOf_67 : decode cX6_handsOf 67 = .ok (.goto 18, 3) := by decide +kernel
theorem dX6_handsOf_70 : decode cX6_handsOf 70 = .ok (.iload_n 3, 1) := by decide +kernel
theorem dX6_handsOf_71 : decode cX6_handsOf 71 = .ok (.iconst 5, 1) := by decide +kernel
theorem dX6_handsOf_72 : decode cX6_handsOf 72 = .ok (.if_icmp .ne 11, 3) := by decide +kernel
theorem dX6_handsOf_75 : decode cX6_handsOf 75 = .ok (.iload 4, 2) := by decide +kernel
theorem dX6_handsOf_77 : decode cX6_handsOf 77 = .ok (.bipush 10, 2) := by decide +kernel
theorem dX6_handsOf_79 : decode cX6_handsOf 79 = .ok (.iadd, 1) := by decide +kernel
theorem dX6_handsOf_80 : decode cX6_handsOf 80 = .ok (.goto 5, 3) := by decide +kernel
theorem dX6_handsOf_83 : decode cX6_handsOf 83 = .ok (.iload 4, 2) := by decide +kernel
theorem dX6_handsOf_85 : decode cX6_handsOf 85 = .ok (.iconst 0, 1) := by decide +kernel
theorem dX6_handsOf_86 : decode cX6_handsOf 86 = .ok (.bipush 99, 2) := by decide +kernel
theorem dX6_handsOf_88 : decode cX6_handsOf 88 = .ok (.invokestatic 246, 3) := by decide +kernel
theorem dX6_handsOf_91 : decode cX6_handsOf 91 = .ok (.ireturn, 1) := by decide +kernel
theorem dX6_spentOf_0 : decode cX6_spentOf 0 = .ok (.aload_n 0, 1) := by decide +kernel
theorem dX6_spentOf_1 : decode cX6_spentOf 1 = .ok (.getfield 23, 3) := by decide +kernel
theorem dX6_spentOf_4 : decode cX6_spentOf 4 = .ok (.iconst 3, 1) := by decide +kernel
theorem dX6_spentOf_5 : decode cX6_spentOf 5 = .ok (.iload_n 1, 1) := by decide +kernel
theorem dX6_spentOf_6 : decode cX6_spentOf 6 = .ok (.imul, 1) := by decide +kernel
theorem dX6_spentOf_7 : decode cX6_spentOf 7 = .ok (.iconst 2, 1) := by decide +kernel
theorem dX6_spentOf_8 : decode cX6_spentOf 8 = .ok (.iadd, 1) := by decide +kernel
theorem dX6_spentOf_9 : decode cX6_spentOf 9 = .ok (.iaload, 1) := by decide +kernel
theorem dX6_spentOf_10 : decode cX6_spentOf 10 = .ok (.istore_n 2, 1) := by decide +kernel
theorem dX6_spentOf_11 : decode cX6_spentOf 11 = .ok (.iload_n 2, 1) := by decide +kernel
theorem dX6_spentOf_12 : decode cX6_spentOf 12 = .ok (.iconst 5, 1) := by decide +kernel
theorem dX6_spentOf_13 : decode cX6_spentOf 13 = .ok (.if_icmp .eq 17, 3) := by decide +kernel
theorem dX6_spentOf_16 : decode cX6_spentOf 16 = .ok (.iload_n 2, 1) := by decide +kernel
theorem dX6_spentOf_17 : decode cX6_spentOf 17 = .ok (.iconst 4, 1) := by decide +kernel
theorem dX6_spentOf_18 : decode cX6_spentOf 18 = .ok (.if_icmp .ne 14, 3) := by decide +kernel
theorem dX6_spentOf_21 : decode cX6_spentOf 21 = .ok (.aload_n 0, 1) := by decide +kernel
theorem dX6_spentOf_22 : decode cX6_spentOf 22 = .ok (.getfield 105, 3) := by decide +kernel
theorem dX6_spentOf_25 : decode cX6_spentOf 25 = .ok (.bipush 21, 2) := by decide +kernel
theorem dX6_spentOf_27 : decode cX6_spentOf 27 = .ok (.if_icmp .ge 5, 3) := by decide +kernel
theorem dX6_spentOf_30 : decode cX6_spentOf 30 = .ok (.iconst 0, 1) := by decide +kernel
theorem dX6_spentOf_31 : decode cX6_spentOf 31 = .ok (.ireturn, 1) := by decide +kernel
theorem dX6_spentOf_32 : decode cX6_spentOf 32 = .ok (.aload_n 0, 1) := by decide +kernel
theorem dX6_spentOf_33 : decode cX6_spentOf 33 = .ok (.iconst 2, 1) := by decide +kernel
theorem dX6_spentOf_34 : decode cX6_spentOf 34 = .ok (.iload_n 1, 1) := by decide +kernel
theorem dX6_spentOf_35 : decode cX6_spentOf 35 = .ok (.iconst (-1), 1) := by decide +kernel
theorem dX6_spentOf_36 : decode cX6_spentOf 36 = .ok (.invokevirtual 250, 3) := by decide +kernel
theorem dX6_spentOf_39 : decode cX6_spentOf 39 = .ok (.istore_n 3, 1) := by decide +kernel
theorem dX6_spentOf_40 : decode cX6_spentOf 40 = .ok (.iload_n 2, 1) := by decide +kernel
theorem dX6_spentOf_41 : decode cX6_spentOf 41 = .ok (.iconst 1, 1) := by decide +kernel
theorem dX6_spentOf_42 : decode cX6_spentOf 42 = .ok (.if_icmp .eq 8, 3) := by decide +kernel
theorem dX6_spentOf_45 : decode cX6_spentOf 45 = .ok (.iload_n 2, 1) := by decide +kernel
theorem dX6_spentOf_46 : decode cX6_spentOf 46 = .ok (.iconst 3, 1) := by decide +kernel
theorem dX6_spentOf_47 : decode cX6_spentOf 47 = .ok (.if_icmp .ne 9, 3) := by decide +kernel
theorem dX6_spentOf_50 : decode cX6_spentOf 50 = .ok (.iload_n 3, 1) := by decide +kernel
theorem dX6_spentOf_51 : decode cX6_spentOf 51 = .ok (.iconst 2, 1) := by decide +kernel
theorem dX6_spentOf_52 : decode cX6_spentOf 52 = .ok (.idiv, 1) := by decide +kernel
theorem dX6_spentOf_53 : decode cX6_spentOf 53 = .ok (.goto 14, 3) := by decide +kernel
theorem dX6_spentOf_56 : decode cX6_spentOf 56 = .ok (.iload_n 2, 1) := by decide +kernel
theorem dX6_spentOf_57 : decode cX6_spentOf 57 = .ok (.ifCond .ne 7, 3) := by decide +kernel
theorem dX6_spentOf_60 : decode cX6_spentOf 60 = .ok (.iload_n 3, 1) := by decide +kernel
theorem dX6_spentOf_61 : decode cX6_spentOf 61 = .ok (.goto 6, 3) := by decide +kernel
theorem dX6_spentOf_64 : decode cX6_spentOf 64 = .ok (.iload_n 3, 1) := by decide +kernel
theorem dX6_spentOf_65 : decode cX6_spentOf 65 = .ok (.iconst 1, 1) := by decide +kernel
theorem dX6_spentOf_66 : decode cX6_spentOf 66 = .ok (.iadd, 1) := by decide +kernel
theorem dX6_spentOf_67 : decode cX6_spentOf 67 = .ok (.iconst 0, 1) := by decide +kernel
theorem dX6_spentOf_68 : decode cX6_spentOf 68 = .ok (.bipush 99, 2) := by decide +kernel
theorem dX6_spentOf_70 : decode cX6_spentOf 70 = .ok (.invokestatic 246, 3) := by decide +kernel
theorem dX6_spentOf_73 : decode cX6_spentOf 73 = .ok (.ireturn, 1) := by decide +kernel
theorem dX6_grips_0 : decode cX6_grips 0 = .ok (.aload_n 0, 1) := by decide +kernel
theorem dX6_grips_1 : decode cX6_grips 1 = .ok (.iload_n 1, 1) := by decide +kernel
theorem dX6_grips_2 : decode cX6_grips 2 = .ok (.iload_n 2, 1) := by decide +kernel
theorem dX6_grips_3 : decode cX6_grips 3 = .ok (.invokevirtual 253, 3) := by decide +kernel
theorem dX6_grips_6 : decode cX6_grips 6 = .ok (.ifCond .eq 12, 3) := by decide +kernel
theorem dX6_grips_9 : decode cX6_grips 9 = .ok (.aload_n 0, 1) := by decide +kernel
theorem dX6_grips_10 : decode cX6_grips 10 = .ok (.iload_n 1, 1) := by decide +kernel
theorem dX6_grips_11 : decode cX6_grips 11 = .ok (.iload_n 2, 1) := by decide +kernel
theorem dX6_grips_12 : decode cX6_grips 12 = .ok (.invokevirtual 256, 3) := by decide +kernel
theorem dX6_grips_15 : decode cX6_grips 15 = .ok (.goto 5, 3) := by decide +kernel
theorem dX6_grips_18 : decode cX6_grips 18 = .ok (.bipush (-2), 2) := by decide +kernel
theorem dX6_grips_20 : decode cX6_grips 20 = .ok (.ireturn, 1) := by decide +kernel
theorem dX6_hands_0 : decode cX6_hands 0 = .ok (.aload_n 0, 1) := by decide +kernel
theorem dX6_hands_1 : decode cX6_hands 1 = .ok (.iload_n 1, 1) := by decide +kernel
theorem dX6_hands_2 : decode cX6_hands 2 = .ok (.invokevirtual 74, 3) := by decide +kernel
theorem dX6_hands_5 : decode cX6_hands 5 = .ok (.ifCond .eq 24, 3) := by decide +kernel
theorem dX6_hands_8 : decode cX6_hands 8 = .ok (.iload_n 2, 1) := by decide +kernel
theorem dX6_hands_9 : decode cX6_hands 9 = .ok (.i2l, 1) := by decide +kernel
theorem dX6_hands_10 : decode cX6_hands 10 = .ok (.lconst 0, 1) := by decide +kernel
theorem dX6_hands_11 : decode cX6_hands 11 = .ok (.ldc2_w 115, 3) := by decide +kernel
theorem dX6_hands_14 : decode cX6_hands 14 = .ok (.invokestatic 70, 3) := by decide +kernel
theorem dX6_hands_17 : decode cX6_hands 17 = .ok (.ifCond .eq 12, 3) := by decide +kernel
theorem dX6_hands_20 : decode cX6_hands 20 = .ok (.aload_n 0, 1) := by decide +kernel
theorem dX6_hands_21 : decode cX6_hands 21 = .ok (.iload_n 1, 1) := by decide +kernel
theorem dX6_hands_22 : decode cX6_hands 22 = .ok (.iload_n 2, 1) := by decide +kernel
theorem dX6_hands_23 : decode cX6_hands 23 = .ok (.invokevirtual 259, 3) := by decide +kernel
theorem dX6_hands_26 : decode cX6_hands 26 = .ok (.goto 5, 3) := by decide +kernel
theorem dX6_hands_29 : decode cX6_hands 29 = .ok (.bipush (-2), 2) := by decide +kernel
theorem dX6_hands_31 : decode cX6_hands 31 = .ok (.ireturn, 1) := by decide +kernel
theorem dX6_hold_0 : decode cX6_hold 0 = .ok (.aload_n 0, 1) := by decide +kernel
theorem dX6_hold_1 : decode cX6_hold 1 = .ok (.getfield 26, 3) := by decide +kernel
theorem dX6_hold_4 : decode cX6_hold 4 = .ok (.iload_n 1, 1) := by decide +kernel
theorem dX6_hold_5 : decode cX6_hold 5 = .ok (.iaload, 1) := by decide +kernel
theorem dX6_hold_6 : decode cX6_hold 6 = .ok (.istore_n 2, 1) := by decide +kernel
theorem dX6_hold_7 : decode cX6_hold 7 = .ok (.aload_n 0, 1) := by decide +kernel
theorem dX6_hold_8 : decode cX6_hold 8 = .ok (.getfield 26, 3) := by decide +kernel
theorem dX6_hold_11 : decode cX6_hold 11 = .ok (.iload_n 1, 1) := by decide +kernel
theorem dX6_hold_12 : decode cX6_hold 12 = .ok (.iconst 1, 1) := by decide +kernel
theorem dX6_hold_13 : decode cX6_hold 13 = .ok (.iadd, 1) := by decide +kernel
theorem dX6_hold_14 : decode cX6_hold 14 = .ok (.aload_n 0, 1) := by decide +kernel
theorem dX6_hold_15 : decode cX6_hold 15 = .ok (.getfield 78, 3) := by decide +kernel
theorem dX6_hold_18 : decode cX6_hold 18 = .ok (.irem, 1) := by decide +kernel
theorem dX6_hold_19 : decode cX6_hold 19 = .ok (.iaload, 1) := by decide +kernel
theorem dX6_hold_20 : decode cX6_hold 20 = .ok (.istore_n 3, 1) := by decide +kernel
theorem dX6_hold_21 : decode cX6_hold 21 = .ok (.aload_n 0, 1) := by decide +kernel
theorem dX6_hold_22 : decode cX6_hold 22 = .ok (.iload_n 2, 1) := by decide +kernel
theorem dX6_hold_23 : decode cX6_hold 23 = .ok (.iload_n 3, 1) := by decide +kernel
theorem dX6_hold_24 : decode cX6_hold 24 = .ok (.invokevirtual 256, 3) := by decide +kernel
theorem dX6_hold_27 : decode cX6_hold 27 = .ok (.istore 4, 2) := by decide +kernel
theorem dX6_hold_29 : decode cX6_hold 29 = .ok (.aload_n 0, 1) := by decide +kernel
theorem dX6_hold_30 : decode cX6_hold 30 = .ok (.iload_n 3, 1) := by decide +kernel
theorem dX6_hold_31 : decode cX6_hold 31 = .ok (.iload_n 2, 1) := by decide +kernel
theorem dX6_hold_32 : decode cX6_hold 32 = .ok (.invokevirtual 256, 3) := by decide +kernel
theorem dX6_hold_35 : decode cX6_hold 35 = .ok (.istore 5, 2) := by decide +kernel
theorem dX6_hold_37 : decode cX6_hold 37 = .ok (.iload 4, 2) := by decide +kernel
theorem dX6_hold_39 : decode cX6_hold 39 = .ok (.iload 5, 2) := by decide +kernel
theorem dX6_hold_41 : decode cX6_hold 41 = .ok (.if_icmp .ge 8, 3) := by decide +kernel
theorem dX6_hold_44 : decode cX6_hold 44 = .ok (.iload 4, 2) := by decide +kernel
theorem dX6_hold_46 : decode cX6_hold 46 = .ok (.goto 5, 3) := by decide +kernel
theorem dX6_hold_49 : decode cX6_hold 49 = .ok (.iload 5, 2) := by decide +kernel
theorem dX6_hold_51 : decode cX6_hold 51 = .ok (.ireturn, 1) := by decide +kernel
theorem dX6_weakest_0 : decode cX6_weakest 0 = .ok (.iconst (-1), 1) := by decide +kernel
theorem dX6_weakest_1 : decode cX6_weakest 1 = .ok (.istore_n 1, 1) := by decide +kernel
theorem dX6_weakest_2 : decode cX6_weakest 2 = .ok (.iconst 0, 1) := by decide +kernel
theorem dX6_weakest_3 : decode cX6_weakest 3 = .ok (.istore_n 2, 1) := by decide +kernel
theorem dX6_weakest_4 : decode cX6_weakest 4 = .ok (.iload_n 2, 1) := by decide +kernel
theorem dX6_weakest_5 : decode cX6_weakest 5 = .ok (.aload_n 0, 1) := by decide +kernel
theorem dX6_weakest_6 : decode cX6_weakest 6 = .ok (.getfield 78, 3) := by decide +kernel
theorem dX6_weakest_9 : decode cX6_weakest 9 = .ok (.if_icmp .ge 39, 3) := by decide +kernel
theorem dX6_weakest_12 : decode cX6_weakest 12 = .ok (.aload_n 0, 1) := by decide +kernel
theorem dX6_weakest_13 : decode cX6_weakest 13 = .ok (.getfield 78, 3) := by decide +kernel
theorem dX6_weakest_16 : decode cX6_weakest 16 = .ok (.iconst 1, 1) := by decide +kernel
theorem dX6_weakest_17 : decode cX6_weakest 17 = .ok (.if_icmp .le 31, 3) := by decide +kernel
theorem dX6_weakest_20 : decode cX6_weakest 20 = .ok (.aload_n 0, 1) := by decide +kernel
theorem dX6_weakest_21 : decode cX6_weakest 21 = .ok (.iload_n 2, 1) := by decide +kernel
theorem dX6_weakest_22 : decode cX6_weakest 22 = .ok (.invokevirtual 125, 3) := by decide +kernel
theorem dX6_weakest_25 : decode cX6_weakest 25 = .ok (.istore_n 3, 1) := by decide +kernel
theorem dX6_weakest_26 : decode cX6_weakest 26 = .ok (.iload_n 1, 1) := by decide +kernel
theorem dX6_weakest_27 : decode cX6_weakest 27 = .ok (.iconst (-1), 1) := by decide +kernel
theorem dX6_weakest_28 : decode cX6_weakest 28 = .ok (.if_icmp .eq 8, 3) := by decide +kernel
theorem dX6_weakest_31 : decode cX6_weakest 31 = .ok (.iload_n 3, 1) := by decide +kernel
theorem dX6_weakest_32 : decode cX6_weakest 32 = .ok (.iload_n 1, 1) := by decide +kernel
theorem dX6_weakest_33 : decode cX6_weakest 33 = .ok (.if_icmp .ge 7, 3) := by decide +kernel
theorem dX6_weakest_36 : decode cX6_weakest 36 = .ok (.iload_n 3, 1) := by decide +kernel
theorem dX6_weakest_37 : decode cX6_weakest 37 = .ok (.goto 4, 3) := by decide +kernel
theorem dX6_weakest_40 : decode cX6_weakest 40 = .ok (.iload_n 1, 1) := by decide +kernel
theorem dX6_weakest_41 : decode cX6_weakest 41 = .ok (.istore_n 1, 1) := by decide +kernel
theorem dX6_weakest_42 : decode cX6_weakest 42 = .ok (.iinc 2 1, 3) := by decide +kernel
theorem dX6_weakest_45 : decode cX6_weakest 45 = .ok (.goto (-41), 3) := by decide +kernel
theorem dX6_weakest_48 : decode cX6_weakest 48 = .ok (.iload_n 1, 1) := by decide +kernel
theorem dX6_weakest_49 : decode cX6_weakest 49 = .ok (.ireturn, 1) := by decide +kernel
theorem dX6_gates_0 : decode cX6_gates 0 = .ok (.iconst 0, 1) := by decide +kernel
theorem dX6_gates_1 : decode cX6_gates 1 = .ok (.istore_n 1, 1) := by decide +kernel
theorem dX6_gates_2 : decode cX6_gates 2 = .ok (.iconst 0, 1) := by decide +kernel
theorem dX6_gates_3 : decode cX6_gates 3 = .ok (.istore_n 2, 1) := by decide +kernel
theorem dX6_gates_4 : decode cX6_gates 4 = .ok (.iload_n 2, 1) := by decide +kernel
theorem dX6_gates_5 : decode cX6_gates 5 = .ok (.aload_n 0, 1) := by decide +kernel
theorem dX6_gates_6 : decode cX6_gates 6 = .ok (.getfield 78, 3) := by decide +kernel
theorem dX6_gates_9 : decode cX6_gates 9 = .ok (.if_icmp .ge 33, 3) := by decide +kernel
theorem dX6_gates_12 : decode cX6_gates 12 = .ok (.aload_n 0, 1) := by decide +kernel
theorem dX6_gates_13 : decode cX6_gates 13 = .ok (.getfield 78, 3) := by decide +kernel
theorem dX6_gates_16 : decode cX6_gates 16 = .ok (.iconst 1, 1) := by decide +kernel
theorem dX6_gates_17 : decode cX6_gates 17 = .ok (.if_icmp .le 25, 3) := by decide +kernel
theorem dX6_gates_20 : decode cX6_gates 20 = .ok (.iload_n 1, 1) := by decide +kernel
theorem dX6_gates_21 : decode cX6_gates 21 = .ok (.aload_n 0, 1) := by decide +kernel
theorem dX6_gates_22 : decode cX6_gates 22 = .ok (.iload_n 2, 1) := by decide +kernel
theorem dX6_gates_23 : decode cX6_gates 23 = .ok (.invokevirtual 125, 3) := by decide +kernel
theorem dX6_gates_26 : decode cX6_gates 26 = .ok (.ifCond .ne 7, 3) := by decide +kernel
theorem dX6_gates_29 : decode cX6_gates 29 = .ok (.iconst 1, 1) := by decide +kernel
theorem dX6_gates_30 : decode cX6_gates 30 = .ok (.goto 4, 3) := by decide +kernel
theorem dX6_gates_33 : decode cX6_gates 33 = .ok (.iconst 0, 1) := by decide +kernel
theorem dX6_gates_34 : decode cX6_gates 34 = .ok (.iadd, 1) := by decide +kernel
theorem dX6_gates_35 : decode cX6_gates 35 = .ok (.istore_n 1, 1) := by decide +kernel
theorem dX6_gates_36 : decode cX6_gates 36 = .ok (.iinc 2 1, 3) := by decide +kernel
theorem dX6_gates_39 : decode cX6_gates 39 = .ok (.goto (-35), 3) := by decide +kernel
theorem dX6_gates_42 : decode cX6_gates 42 = .ok (.iload_n 1, 1) := by decide +kernel
theorem dX6_gates_43 : decode cX6_gates 43 = .ok (.ireturn, 1) := by decide +kernel
theorem dX6_firstGate_0 : decode cX6_firstGate 0 = .ok (.iconst (-1), 1) := by decide +kernel
theorem dX6_firstGate_1 : decode cX6_firstGate 1 = .ok (.istore_n 1, 1) := by decide +kernel
theorem dX6_firstGate_2 : decode cX6_firstGate 2 = .ok (.aload_n 0, 1) := by decide +kernel
theorem dX6_firstGate_3 : decode cX6_firstGate 3 = .ok (.getfield 78, 3) := by decide +kernel
theorem dX6_firstGate_6 : decode cX6_firstGate 6 = .ok (.iconst 1, 1) := by decide +kernel
theorem dX6_firstGate_7 : decode cX6_firstGate 7 = .ok (.isub, 1) := by decide +kernel
theorem dX6_firstGate_8 : decode cX6_firstGate 8 = .ok (.istore_n 2, 1) := by decide +kernel
theorem dX6_firstGate_9 : decode cX6_firstGate 9 = .ok (.iload_n 2, 1) := by decide +kernel
theorem dX6_firstGate_10 : decode cX6_firstGate 10 = .ok (.ifCond .lt 31, 3) := by decide +kernel
theorem dX6_firstGate_13 : decode cX6_firstGate 13 = .ok (.aload_n 0, 1) := by decide +kernel
theorem dX6_firstGate_14 : decode cX6_firstGate 14 = .ok (.getfield 78, 3) := by decide +kernel
theorem dX6_firstGate_17 : decode cX6_firstGate 17 = .ok (.iconst 1, 1) := by decide +kernel
theorem dX6_firstGate_18 : decode cX6_firstGate 18 = .ok (.if_icmp .le 23, 3) := by decide +kernel
theorem dX6_firstGate_21 : decode cX6_firstGate 21 = .ok (.aload_n 0, 1) := by decide +kernel
theorem dX6_firstGate_22 : decode cX6_firstGate 22 = .ok (.iload_n 2, 1) := by decide +kernel
theorem dX6_firstGate_23 : decode cX6_firstGate 23 = .ok (.invokevirtual 125, 3) := by decide +kernel
theorem dX6_firstGate_26 : decode cX6_firstGate 26 = .ok (.ifCond .ne 7, 3) := by decide +kernel
theorem dX6_firstGate_29 : decode cX6_firstGate 29 = .ok (.iload_n 2, 1) := by decide +kernel
theorem dX6_firstGate_30 : decode cX6_firstGate 30 = .ok (.goto 4, 3) := by decide +kernel
theorem dX6_firstGate_33 : decode cX6_firstGate 33 = .ok (.iload_n 1, 1) := by decide +kernel
theorem dX6_firstGate_34 : decode cX6_firstGate 34 = .ok (.istore_n 1, 1) := by decide +kernel
theorem dX6_firstGate_35 : decode cX6_firstGate 35 = .ok (.iinc 2 (-1), 3) := by decide +kernel
theorem dX6_firstGate_38 : decode cX6_firstGate 38 = .ok (.goto (-29), 3) := by decide +kernel
theorem dX6_firstGate_41 : decode cX6_firstGate 41 = .ok (.iload_n 1, 1) := by decide +kernel
theorem dX6_firstGate_42 : decode cX6_firstGate 42 = .ok (.ireturn, 1) := by decide +kernel
theorem dX6_wall_0 : decode cX6_wall 0 = .ok (.iload_n 1, 1) := by decide +kernel
theorem dX6_wall_1 : decode cX6_wall 1 = .ok (.i2l, 1) := by decide +kernel
theorem dX6_wall_2 : decode cX6_wall 2 = .ok (.lconst 0, 1) := by decide +kernel
theorem dX6_wall_3 : decode cX6_wall 3 = .ok (.ldc2_w 84, 3) := by decide +kernel
theorem dX6_wall_6 : decode cX6_wall 6 = .ok (.invokestatic 70, 3) := by decide +kernel
theorem dX6_wall_9 : decode cX6_wall 9 = .ok (.ifCond .ne 6, 3) := by decide +kernel
theorem dX6_wall_12 : decode cX6_wall 12 = .ok (.bipush (-2), 2) := by decide +kernel
theorem dX6_wall_14 : decode cX6_wall 14 = .ok (.ireturn, 1) := by decide +kernel
theorem dX6_wall_15 : decode cX6_wall 15 = .ok (.iload_n 1, 1) := by decide +kernel
theorem dX6_wall_16 : decode cX6_wall 16 = .ok (.ifCond .ne 10, 3) := by decide +kernel
theorem dX6_wall_19 : decode cX6_wall 19 = .ok (.aload_n 0, 1) := by decide +kernel
theorem dX6_wall_20 : decode cX6_wall 20 = .ok (.invokevirtual 262, 3) := by decide +kernel
theorem dX6_wall_23 : decode cX6_wall 23 = .ok (.goto 31, 3) := by decide +kernel
theorem dX6_wall_26 : decode cX6_wall 26 = .ok (.iload_n 1, 1) := by decide +kernel
theorem dX6_wall_27 : decode cX6_wall 27 = .ok (.iconst 1, 1) := by decide +kernel
theorem dX6_wall_28 : decode cX6_wall 28 = .ok (.if_icmp .ne 10, 3) := by decide +kernel
theorem dX6_wall_31 : decode cX6_wall 31 = .ok (.aload_n 0, 1) := by decide +kernel
theorem dX6_wall_32 : decode cX6_wall 32 = .ok (.invokevirtual 265, 3) := by decide +kernel
theorem dX6_wall_35 : decode cX6_wall 35 = .ok (.goto 19, 3) := by decide +kernel
theorem dX6_wall_38 : decode cX6_wall 38 = .ok (.iload_n 1, 1) := by decide +kernel
theorem dX6_wall_39 : decode cX6_wall 39 = .ok (.iconst 2, 1) := by decide +kernel
theorem dX6_wall_40 : decode cX6_wall 40 = .ok (.if_icmp .ne 10, 3) := by decide +kernel
theorem dX6_wall_43 : decode cX6_wall 43 = .ok (.aload_n 0, 1) := by decide +kernel
theorem dX6_wall_44 : decode cX6_wall 44 = .ok (.invokevirtual 268, 3) := by decide +kernel
theorem dX6_wall_47 : decode cX6_wall 47 = .ok (.goto 7, 3) := by decide +kernel
theorem dX6_wall_50 : decode cX6_wall 50 = .ok (.aload_n 0, 1) := by decide +kernel
theorem dX6_wall_51 : decode cX6_wall 51 = .ok (.getfield 78, 3) := by decide +kernel
theorem dX6_wall_54 : decode cX6_wall 54 = .ok (.ireturn, 1) := by decide +kernel
theorem dX6_closesUp_0 : decode cX6_closesUp 0 = .ok (.aload_n 0, 1) := by decide +kernel
theorem dX6_closesUp_1 : decode cX6_closesUp 1 = .ok (.dup, 1) := by decide +kernel
theorem dX6_closesUp_2 : decode cX6_closesUp 2 = .ok (.getfield 78, 3) := by decide +kernel
theorem dX6_closesUp_5 : decode cX6_closesUp 5 = .ok (.iconst 1, 1) := by decide +kernel
theorem dX6_closesUp_6 : decode cX6_closesUp 6 = .ok (.isub, 1) := by decide +kernel
theorem dX6_closesUp_7 : decode cX6_closesUp 7 = .ok (.putfield 78, 3) := by decide +kernel
theorem dX6_closesUp_10 : decode cX6_closesUp 10 = .ok (.iload_n 1, 1) := by decide +kernel
theorem dX6_closesUp_11 : decode cX6_closesUp 11 = .ok (.istore_n 2, 1) := by decide +kernel
theorem dX6_closesUp_12 : decode cX6_closesUp 12 = .ok (.iload_n 2, 1) := by decide +kernel
theorem dX6_closesUp_13 : decode cX6_closesUp 13 = .ok (.aload_n 0, 1) := by decide +kernel
theorem dX6_closesUp_14 : decode cX6_closesUp 14 = .ok (.getfield 78, 3) := by decide +kernel
theorem dX6_closesUp_17 : decode cX6_closesUp 17 = .ok (.if_icmp .ge 23, 3) := by decide +kernel
theorem dX6_closesUp_20 : decode cX6_closesUp 20 = .ok (.aload_n 0, 1) := by decide +kernel
theorem dX6_closesUp_21 : decode cX6_closesUp 21 = .ok (.getfield 26, 3) := by decide +kernel
theorem dX6_closesUp_24 : decode cX6_closesUp 24 = .ok (.iload_n 2, 1) := by decide +kernel
theorem dX6_closesUp_25 : decode cX6_closesUp 25 = .ok (.aload_n 0, 1) := by decide +kernel
theorem dX6_closesUp_26 : decode cX6_closesUp 26 = .ok (.getfield 26, 3) := by decide +kernel
theorem dX6_closesUp_29 : decode cX6_closesUp 29 = .ok (.iload_n 2, 1) := by decide +kernel
theorem dX6_closesUp_30 : decode cX6_closesUp 30 = .ok (.iconst 1, 1) := by decide +kernel
theorem dX6_closesUp_31 : decode cX6_closesUp 31 = .ok (.iadd, 1) := by decide +kernel
theorem dX6_closesUp_32 : decode cX6_closesUp 32 = .ok (.iaload, 1) := by decide +kernel
theorem dX6_closesUp_33 : decode cX6_closesUp 33 = .ok (.iastore, 1) := by decide +kernel
theorem dX6_closesUp_34 : decode cX6_closesUp 34 = .ok (.iinc 2 1, 3) := by decide +kernel
theorem dX6_closesUp_37 : decode cX6_closesUp 37 = .ok (.goto (-25), 3) := by decide +kernel
theorem dX6_closesUp_40 : decode cX6_closesUp 40 = .ok (.return_, 1) := by decide +kernel
theorem dX6_stands_0 : decode cX6_stands 0 = .ok (.aload_n 0, 1) := by decide +kernel
theorem dX6_stands_1 : decode cX6_stands 1 = .ok (.getfield 78, 3) := by decide +kernel
theorem dX6_stands_4 : decode cX6_stands 4 = .ok (.istore_n 3, 1) := by decide +kernel
theorem dX6_stands_5 : decode cX6_stands 5 = .ok (.iload_n 3, 1) := by decide +kernel
theorem dX6_stands_6 : decode cX6_stands 6 = .ok (.iload_n 2, 1) := by decide +kernel
theorem dX6_stands_7 : decode cX6_stands 7 = .ok (.if_icmp .le 23, 3) := by decide +kernel
theorem dX6_stands_10 : decode cX6_stands 10 = .ok (.aload_n 0, 1) := by decide +kernel
theorem dX6_stands_11 : decode cX6_stands 11 = .ok (.getfield 26, 3) := by decide +kernel
theorem dX6_stands_14 : decode cX6_stands 14 = .ok (.iload_n 3, 1) := by decide +kernel
theorem dX6_stands_15 : decode cX6_stands 15 = .ok (.aload_n 0, 1) := by decide +kernel
theorem dX6_stands_16 : decode cX6_stands 16 = .ok (.getfield 26, 3) := by decide +kernel
theorem dX6_stands_19 : decode cX6_stands 19 = .ok (.iload_n 3, 1) := by decide +kernel
theorem dX6_stands_20 : decode cX6_stands 20 = .ok (.iconst 1, 1) := by decide +kernel
theorem dX6_stands_21 : decode cX6_stands 21 = .ok (.isub, 1) := by decide +kernel
theorem dX6_stands_22 : decode cX6_stands 22 = .ok (.iaload, 1) := by decide +kernel
theorem dX6_stands_23 : decode cX6_stands 23 = .ok (.iastore, 1) := by decide +kernel
theorem dX6_stands_24 : decode cX6_stands 24 = .ok (.iinc 3 (-1), 3) := by decide +kernel
theorem dX6_stands_27 : decode cX6_stands 27 = .ok (.goto (-22), 3) := by decide +kernel
theorem dX6_stands_30 : decode cX6_stands 30 = .ok (.aload_n 0, 1) := by decide +kernel
theorem dX6_stands_31 : decode cX6_stands 31 = .ok (.getfield 26, 3) := by decide +kernel
theorem dX6_stands_34 : decode cX6_stands 34 = .ok (.iload_n 2, 1) := by decide +kernel
theorem dX6_stands_35 : decode cX6_stands 35 = .ok (.iload_n 1, 1) := by decide +kernel
theorem dX6_stands_36 : decode cX6_stands 36 = .ok (.iastore, 1) := by decide +kernel
theorem dX6_stands_37 : decode cX6_stands 37 = .ok (.aload_n 0, 1) := by decide +kernel
theorem dX6_stands_38 : decode cX6_stands 38 = .ok (.dup, 1) := by decide +kernel
theorem dX6_stands_39 : decode cX6_stands 39 = .ok (.getfield 78, 3) := by decide +kernel
theorem dX6_stands_42 : decode cX6_stands 42 = .ok (.iconst 1, 1) := by decide +kernel
theorem dX6_stands_43 : decode cX6_stands 43 = .ok (.iadd, 1) := by decide +kernel
theorem dX6_stands_44 : decode cX6_stands 44 = .ok (.putfield 78, 3) := by decide +kernel
theorem dX6_stands_47 : decode cX6_stands 47 = .ok (.return_, 1) := by decide +kernel
theorem dX6_out_0 : decode cX6_out 0 = .ok (.aload_n 0, 1) := by decide +kernel
theorem dX6_out_1 : decode cX6_out 1 = .ok (.iload_n 1, 1) := by decide +kernel
theorem dX6_out_2 : decode cX6_out 2 = .ok (.invokevirtual 74, 3) := by decide +kernel
theorem dX6_out_5 : decode cX6_out 5 = .ok (.ifCond .ne 6, 3) := by decide +kernel
theorem dX6_out_8 : decode cX6_out 8 = .ok (.bipush (-2), 2) := by decide +kernel
theorem dX6_out_10 : decode cX6_out 10 = .ok (.ireturn, 1) := by decide +kernel
theorem dX6_out_11 : decode cX6_out 11 = .ok (.aload_n 0, 1) := by decide +kernel
theorem dX6_out_12 : decode cX6_out 12 = .ok (.iload_n 1, 1) := by decide +kernel
theorem dX6_out_13 : decode cX6_out 13 = .ok (.invokevirtual 119, 3) := by decide +kernel
theorem dX6_out_16 : decode cX6_out 16 = .ok (.istore_n 2, 1) := by decide +kernel
theorem dX6_out_17 : decode cX6_out 17 = .ok (.iload_n 2, 1) := by decide +kernel
theorem dX6_out_18 : decode cX6_out 18 = .ok (.iconst (-1), 1) := by decide +kernel
theorem dX6_out_19 : decode cX6_out 19 = .ok (.if_icmp .ne 6, 3) := by decide +kernel
theorem dX6_out_22 : decode cX6_out 22 = .ok (.bipush (-3), 2) := by decide +kernel
theorem dX6_out_24 : decode cX6_out 24 = .ok (.ireturn, 1) := by decide +kernel
theorem dX6_out_25 : decode cX6_out 25 = .ok (.aload_n 0, 1) := by decide +kernel
theorem dX6_out_26 : decode cX6_out 26 = .ok (.iload_n 2, 1) := by decide +kernel
theorem dX6_out_27 : decode cX6_out 27 = .ok (.invokevirtual 271, 3) := by decide +kernel
theorem dX6_out_30 : decode cX6_out 30 = .ok (.iload_n 2, 1) := by decide +kernel
theorem dX6_out_31 : decode cX6_out 31 = .ok (.ireturn, 1) := by decide +kernel
theorem dX6_into_0 : decode cX6_into 0 = .ok (.aload_n 0, 1) := by decide +kernel
theorem dX6_into_1 : decode cX6_into 1 = .ok (.iload_n 1, 1) := by decide +kernel
theorem dX6_into_2 : decode cX6_into 2 = .ok (.invokevirtual 74, 3) := by decide +kernel
theorem dX6_into_5 : decode cX6_into 5 = .ok (.ifCond .eq 17, 3) := by decide +kernel
theorem dX6_into_8 : decode cX6_into 8 = .ok (.iload_n 2, 1) := by decide +kernel
theorem dX6_into_9 : decode cX6_into 9 = .ok (.i2l, 1) := by decide +kernel
theorem dX6_into_10 : decode cX6_into 10 = .ok (.lconst 0, 1) := by decide +kernel
theorem dX6_into_11 : decode cX6_into 11 = .ok (.aload_n 0, 1) := by decide +kernel
theorem dX6_into_12 : decode cX6_into 12 = .ok (.getfield 78, 3) := by decide +kernel
theorem dX6_into_15 : decode cX6_into 15 = .ok (.i2l, 1) := by decide +kernel
theorem dX6_into_16 : decode cX6_into 16 = .ok (.invokestatic 70, 3) := by decide +kernel
theorem dX6_into_19 : decode cX6_into 19 = .ok (.ifCond .ne 6, 3) := by decide +kernel
theorem dX6_into_22 : decode cX6_into 22 = .ok (.bipush (-2), 2) := by decide +kernel
theorem dX6_into_24 : decode cX6_into 24 = .ok (.ireturn, 1) := by decide +kernel
theorem dX6_into_25 : decode cX6_into 25 = .ok (.aload_n 0, 1) := by decide +kernel
theorem dX6_into_26 : decode cX6_into 26 = .ok (.iload_n 1, 1) := by decide +kernel
theorem dX6_into_27 : decode cX6_into 27 = .ok (.invokevirtual 119, 3) := by decide +kernel
theorem dX6_into_30 : decode cX6_into 30 = .ok (.iconst (-1), 1) := by decide +kernel
theorem dX6_into_31 : decode cX6_into 31 = .ok (.if_icmp .eq 6, 3) := by decide +kernel
theorem dX6_into_34 : decode cX6_into 34 = .ok (.bipush (-3), 2) := by decide +kernel
theorem dX6_into_36 : decode cX6_into 36 = .ok (.ireturn, 1) := by decide +kernel
theorem dX6_into_37 : decode cX6_into 37 = .ok (.aload_n 0, 1) := by decide +kernel
theorem dX6_into_38 : decode cX6_into 38 = .ok (.iload_n 1, 1) := by decide +kernel
theorem dX6_into_39 : decode cX6_into 39 = .ok (.iload_n 2, 1) := by decide +kernel
theorem dX6_into_40 : decode cX6_into 40 = .ok (.invokevirtual 275, 3) := by decide +kernel
theorem dX6_into_43 : decode cX6_into 43 = .ok (.aload_n 0, 1) := by decide +kernel
theorem dX6_into_44 : decode cX6_into 44 = .ok (.getfield 78, 3) := by decide +kernel
theorem dX6_into_47 : decode cX6_into 47 = .ok (.ireturn, 1) := by decide +kernel
theorem dX6_change_0 : decode cX6_change 0 = .ok (.aload_n 0, 1) := by decide +kernel
theorem dX6_change_1 : decode cX6_change 1 = .ok (.getfield 26, 3) := by decide +kernel
theorem dX6_change_4 : decode cX6_change 4 = .ok (.iload_n 1, 1) := by decide +kernel
theorem dX6_change_5 : decode cX6_change 5 = .ok (.iaload, 1) := by decide +kernel
theorem dX6_change_6 : decode cX6_change 6 = .ok (.istore_n 3, 1) := by decide +kernel
theorem dX6_change_7 : decode cX6_change 7 = .ok (.aload_n 0, 1) := by decide +kernel
theorem dX6_change_8 : decode cX6_change 8 = .ok (.getfield 26, 3) := by decide +kernel
theorem dX6_change_11 : decode cX6_change 11 = .ok (.iload_n 1, 1) := by decide +kernel
theorem dX6_change_12 : decode cX6_change 12 = .ok (.aload_n 0, 1) := by decide +kernel
theorem dX6_change_13 : decode cX6_change 13 = .ok (.getfield 26, 3) := by decide +kernel
theorem dX6_change_16 : decode cX6_change 16 = .ok (.iload_n 2, 1) := by decide +kernel
theorem dX6_change_17 : decode cX6_change 17 = .ok (.iaload, 1) := by decide +kernel
theorem dX6_change_18 : decode cX6_change 18 = .ok (.iastore, 1) := by decide +kernel
theorem dX6_change_19 : decode cX6_change 19 = .ok (.aload_n 0, 1) := by decide +kernel
theorem dX6_change_20 : decode cX6_change 20 = .ok (.getfield 26, 3) := by decide +kernel
theorem dX6_change_23 : decode cX6_change 23 = .ok (.iload_n 2, 1) := by decide +kernel
theorem dX6_change_24 : decode cX6_change 24 = .ok (.iload_n 3, 1) := by decide +kernel
theorem dX6_change_25 : decode cX6_change 25 = .ok (.iastore, 1) := by decide +kernel
theorem dX6_change_26 : decode cX6_change 26 = .ok (.return_, 1) := by decide +kernel
theorem dX6_swap_0 : decode cX6_swap 0 = .ok (.aload_n 0, 1) := by decide +kernel
theorem dX6_swap_1 : decode cX6_swap 1 = .ok (.iload_n 1, 1) := by decide +kernel
theorem dX6_swap_2 : decode cX6_swap 2 = .ok (.iload_n 2, 1) := by decide +kernel
theorem dX6_swap_3 : decode cX6_swap 3 = .ok (.invokevirtual 253, 3) := by decide +kernel
theorem dX6_swap_6 : decode cX6_swap 6 = .ok (.ifCond .eq 21, 3) := by decide +kernel
theorem dX6_swap_9 : decode cX6_swap 9 = .ok (.aload_n 0, 1) := by decide +kernel
theorem dX6_swap_10 : decode cX6_swap 10 = .ok (.iload_n 1, 1) := by decide +kernel
theorem dX6_swap_11 : decode cX6_swap 11 = .ok (.invokevirtual 119, 3) := by decide +kernel
theorem dX6_swap_14 : decode cX6_swap 14 = .ok (.iconst (-1), 1) := by decide +kernel
theorem dX6_swap_15 : decode cX6_swap 15 = .ok (.if_icmp .eq 12, 3) := by decide +kernel
theorem dX6_swap_18 : decode cX6_swap 18 = .ok (.aload_n 0, 1) := by decide +kernel
theorem dX6_swap_19 : decode cX6_swap 19 = .ok (.iload_n 2, 1) := by decide +kernel
theorem dX6_swap_20 : decode cX6_swap 20 = .ok (.invokevirtual 119, 3) := by decide +kernel
theorem dX6_swap_23 : decode cX6_swap 23 = .ok (.iconst (-1), 1) := by decide +kernel
theorem dX6_swap_24 : decode cX6_swap 24 = .ok (.if_icmp .ne 6, 3) := by decide +kernel
theorem dX6_swap_27 : decode cX6_swap 27 = .ok (.bipush (-2), 2) := by decide +kernel
theorem dX6_swap_29 : decode cX6_swap 29 = .ok (.ireturn, 1) := by decide +kernel
theorem dX6_swap_30 : decode cX6_swap 30 = .ok (.aload_n 0, 1) := by decide +kernel
theorem dX6_swap_31 : decode cX6_swap 31 = .ok (.aload_n 0, 1) := by decide +kernel
theorem dX6_swap_32 : decode cX6_swap 32 = .ok (.iload_n 1, 1) := by decide +kernel
theorem dX6_swap_33 : decode cX6_swap 33 = .ok (.invokevirtual 119, 3) := by decide +kernel
theorem dX6_swap_36 : decode cX6_swap 36 = .ok (.aload_n 0, 1) := by decide +kernel
theorem dX6_swap_37 : decode cX6_swap 37 = .ok (.iload_n 2, 1) := by decide +kernel
theorem dX6_swap_38 : decode cX6_swap 38 = .ok (.invokevirtual 119, 3) := by decide +kernel
theorem dX6_swap_41 : decode cX6_swap 41 = .ok (.invokevirtual 279, 3) := by decide +kernel
theorem dX6_swap_44 : decode cX6_swap 44 = .ok (.aload_n 0, 1) := by decide +kernel
theorem dX6_swap_45 : decode cX6_swap 45 = .ok (.invokevirtual 262, 3) := by decide +kernel
theorem dX6_swap_48 : decode cX6_swap 48 = .ok (.ireturn, 1) := by decide +kernel
theorem dX6_passes_0 : decode cX6_passes 0 = .ok (.iconst 0, 1) := by decide +kernel
theorem dX6_passes_1 : decode cX6_passes 1 = .ok (.istore_n 1, 1) := by decide +kernel
theorem dX6_passes_2 : decode cX6_passes 2 = .ok (.iload_n 1, 1) := by decide +kernel
theorem dX6_passes_3 : decode cX6_passes 3 = .ok (.aload_n 0, 1) := by decide +kernel
theorem dX6_passes_4 : decode cX6_passes 4 = .ok (.getfield 78, 3) := by decide +kernel
theorem dX6_passes_7 : decode cX6_passes 7 = .ok (.if_icmp .ge 25, 3) := by decide +kernel
theorem dX6_passes_10 : decode cX6_passes 10 = .ok (.aload_n 0, 1) := by decide +kernel
theorem dX6_passes_11 : decode cX6_passes 11 = .ok (.getfield 29, 3) := by decide +kernel
theorem dX6_passes_14 : decode cX6_passes 14 = .ok (.iload_n 1, 1) := by decide +kernel
theorem dX6_passes_15 : decode cX6_passes 15 = .ok (.aload_n 0, 1) := by decide +kernel
theorem dX6_passes_16 : decode cX6_passes 16 = .ok (.aload_n 0, 1) := by decide +kernel
theorem dX6_passes_17 : decode cX6_passes 17 = .ok (.getfield 26, 3) := by decide +kernel
theorem dX6_passes_20 : decode cX6_passes 20 = .ok (.iload_n 1, 1) := by decide +kernel
theorem dX6_passes_21 : decode cX6_passes 21 = .ok (.iaload, 1) := by decide +kernel
theorem dX6_passes_22 : decode cX6_passes 22 = .ok (.invokevirtual 122, 3) := by decide +kernel
theorem dX6_passes_25 : decode cX6_passes 25 = .ok (.iastore, 1) := by decide +kernel
theorem dX6_passes_26 : decode cX6_passes 26 = .ok (.iinc 1 1, 3) := by decide +kernel
theorem dX6_passes_29 : decode cX6_passes 29 = .ok (.goto (-27), 3) := by decide +kernel
theorem dX6_passes_32 : decode cX6_passes 32 = .ok (.iconst 0, 1) := by decide +kernel
theorem dX6_passes_33 : decode cX6_passes 33 = .ok (.istore_n 1, 1) := by decide +kernel
theorem dX6_passes_34 : decode cX6_passes 34 = .ok (.iload_n 1, 1) := by decide +kernel
theorem dX6_passes_35 : decode cX6_passes 35 = .ok (.aload_n 0, 1) := by decide +kernel
theorem dX6_passes_36 : decode cX6_passes 36 = .ok (.getfield 78, 3) := by decide +kernel
theorem dX6_passes_39 : decode cX6_passes 39 = .ok (.if_icmp .ge 45, 3) := by decide +kernel
theorem dX6_passes_42 : decode cX6_passes 42 = .ok (.iconst 3, 1) := by decide +kernel
theorem dX6_passes_43 : decode cX6_passes 43 = .ok (.aload_n 0, 1) := by decide +kernel
theorem dX6_passes_44 : decode cX6_passes 44 = .ok (.getfield 26, 3) := by decide +kernel
theorem dX6_passes_47 : decode cX6_passes 47 = .ok (.iload_n 1, 1) := by decide +kernel
theorem dX6_passes_48 : decode cX6_passes 48 = .ok (.iaload, 1) := by decide +kernel
theorem dX6_passes_49 : decode cX6_passes 49 = .ok (.imul, 1) := by decide +kernel
theorem dX6_passes_50 : decode cX6_passes 50 = .ok (.iconst 1, 1) := by decide +kernel
theorem dX6_passes_51 : decode cX6_passes 51 = .ok (.iadd, 1) := by decide +kernel
theorem dX6_passes_52 : decode cX6_passes 52 = .ok (.istore_n 2, 1) := by decide +kernel
theorem dX6_passes_53 : decode cX6_passes 53 = .ok (.aload_n 0, 1) := by decide +kernel
theorem dX6_passes_54 : decode cX6_passes 54 = .ok (.getfield 23, 3) := by decide +kernel
theorem dX6_passes_57 : decode cX6_passes 57 = .ok (.iload_n 2, 1) := by decide +kernel
theorem dX6_passes_58 : decode cX6_passes 58 = .ok (.aload_n 0, 1) := by decide +kernel
theorem dX6_passes_59 : decode cX6_passes 59 = .ok (.getfield 23, 3) := by decide +kernel
theorem dX6_passes_62 : decode cX6_passes 62 = .ok (.iload_n 2, 1) := by decide +kernel
theorem dX6_passes_63 : decode cX6_passes 63 = .ok (.iaload, 1) := by decide +kernel
theorem dX6_passes_64 : decode cX6_passes 64 = .ok (.aload_n 0, 1) := by decide +kernel
theorem dX6_passes_65 : decode cX6_passes 65 = .ok (.getfield 29, 3) := by decide +kernel
theorem dX6_passes_68 : decode cX6_passes 68 = .ok (.iload_n 1, 1) := by decide +kernel
theorem dX6_passes_69 : decode cX6_passes 69 = .ok (.iaload, 1) := by decide +kernel
theorem dX6_passes_70 : decode cX6_passes 70 = .ok (.isub, 1) := by decide +kernel
theorem dX6_passes_71 : decode cX6_passes 71 = .ok (.iconst 0, 1) := by decide +kernel
theorem dX6_passes_72 : decode cX6_passes 72 = .ok (.bipush 99, 2) := by decide +kernel
theorem dX6_passes_74 : decode cX6_passes 74 = .ok (.invokestatic 246, 3) := by decide +kernel
theorem dX6_passes_77 : decode cX6_passes 77 = .ok (.iastore, 1) := by decide +kernel
theorem dX6_passes_78 : decode cX6_passes 78 = .ok (.iinc 1 1, 3) := by decide +kernel
theorem dX6_passes_81 : decode cX6_passes 81 = .ok (.goto (-47), 3) := by decide +kernel
theorem dX6_passes_84 : decode cX6_passes 84 = .ok (.aload_n 0, 1) := by decide +kernel
theorem dX6_passes_85 : decode cX6_passes 85 = .ok (.dup, 1) := by decide +kernel
theorem dX6_passes_86 : decode cX6_passes 86 = .ok (.getfield 102, 3) := by decide +kernel
theorem dX6_passes_89 : decode cX6_passes 89 = .ok (.iconst 1, 1) := by decide +kernel
theorem dX6_passes_90 : decode cX6_passes 90 = .ok (.iadd, 1) := by decide +kernel
theorem dX6_passes_91 : decode cX6_passes 91 = .ok (.putfield 102, 3) := by decide +kernel
theorem dX6_passes_94 : decode cX6_passes 94 = .ok (.return_, 1) := by decide +kernel
theorem dX6_hour_0 : decode cX6_hour 0 = .ok (.aload_n 0, 1) := by decide +kernel
theorem dX6_hour_1 : decode cX6_hour 1 = .ok (.getfield 102, 3) := by decide +kernel
theorem dX6_hour_4 : decode cX6_hour 4 = .ok (.sipush 999, 3) := by decide +kernel
theorem dX6_hour_7 : decode cX6_hour 7 = .ok (.if_icmp .ne 6, 3) := by decide +kernel
theorem dX6_hour_10 : decode cX6_hour 10 = .ok (.bipush (-3), 2) := by decide +kernel
theorem dX6_hour_12 : decode cX6_hour 12 = .ok (.ireturn, 1) := by decide +kernel
theorem dX6_hour_13 : decode cX6_hour 13 = .ok (.aload_n 0, 1) := by decide +kernel
theorem dX6_hour_14 : decode cX6_hour 14 = .ok (.invokevirtual 282, 3) := by decide +kernel
theorem dX6_hour_17 : decode cX6_hour 17 = .ok (.aload_n 0, 1) := by decide +kernel
theorem dX6_hour_18 : decode cX6_hour 18 = .ok (.invokevirtual 262, 3) := by decide +kernel
theorem dX6_hour_21 : decode cX6_hour 21 = .ok (.ireturn, 1) := by decide +kernel
theorem dX6_sneeze_0 : decode cX6_sneeze 0 = .ok (.aload_n 0, 1) := by decide +kernel
theorem dX6_sneeze_1 : decode cX6_sneeze 1 = .ok (.iload_n 1, 1) := by decide +kernel
theorem dX6_sneeze_2 : decode cX6_sneeze 2 = .ok (.invokevirtual 74, 3) := by decide +kernel
theorem dX6_sneeze_5 : decode cX6_sneeze 5 = .ok (.ifCond .eq 36, 3) := by decide +kernel
theorem dX6_sneeze_8 : decode cX6_sneeze 8 = .ok (.aload_n 0, 1) := by decide +kernel
theorem dX6_sneeze_9 : decode cX6_sneeze 9 = .ok (.iload_n 1, 1) := by decide +kernel
theorem dX6_sneeze_10 : decode cX6_sneeze 10 = .ok (.invokevirtual 119, 3) := by decide +kernel
theorem dX6_sneeze_13 : decode cX6_sneeze 13 = .ok (.iconst (-1), 1) := by decide +kernel
theorem dX6_sneeze_14 : decode cX6_sneeze 14 = .ok (.if_icmp .eq 27, 3) := by decide +kernel
theorem dX6_sneeze_17 : decode cX6_sneeze 17 = .ok (.iload_n 2, 1) := by decide +kernel
theorem dX6_sneeze_18 : decode cX6_sneeze 18 = .ok (.i2l, 1) := by decide +kernel
theorem dX6_sneeze_19 : decode cX6_sneeze 19 = .ok (.lconst 0, 1) := by decide +kernel
theorem dX6_sneeze_20 : decode cX6_sneeze 20 = .ok (.ldc2_w 115, 3) := by decide +kernel
theorem dX6_sneeze_23 : decode cX6_sneeze 23 = .ok (.invokestatic 70, 3) := by decide +kernel
theorem dX6_sneeze_26 : decode cX6_sneeze 26 = .ok (.ifCond .eq 15, 3) := by decide +kernel
theorem dX6_sneeze_29 : decode cX6_sneeze 29 = .ok (.iload_n 3, 1) := by decide +kernel
theorem dX6_sneeze_30 : decode cX6_sneeze 30 = .ok (.i2l, 1) := by decide +kernel
theorem dX6_sneeze_31 : decode cX6_sneeze 31 = .ok (.lconst 0, 1) := by decide +kernel
theorem dX6_sneeze_32 : decode cX6_sneeze 32 = .ok (.ldc2_w 285, 3) := by decide +kernel
theorem dX6_sneeze_35 : decode cX6_sneeze 35 = .ok (.invokestatic 70, 3) := by decide +kernel
theorem dX6_sneeze_38 : decode cX6_sneeze 38 = .ok (.ifCond .ne 6, 3) := by decide +kernel
theorem dX6_sneeze_41 : decode cX6_sneeze 41 = .ok (.bipush (-2), 2) := by decide +kernel
theorem dX6_sneeze_43 : decode cX6_sneeze 43 = .ok (.ireturn, 1) := by decide +kernel
theorem dX6_sneeze_44 : decode cX6_sneeze 44 = .ok (.iconst 0, 1) := by decide +kernel
theorem dX6_sneeze_45 : decode cX6_sneeze 45 = .ok (.istore 4, 2) := by decide +kernel
theorem dX6_sneeze_47 : decode cX6_sneeze 47 = .ok (.iconst (-1), 1) := by decide +kernel
theorem dX6_sneeze_48 : decode cX6_sneeze 48 = .ok (.istore 5, 2) := by decide +kernel
theorem dX6_sneeze_50 : decode cX6_sneeze 50 = .ok (.iconst 0, 1) := by decide +kernel
theorem dX6_sneeze_51 : decode cX6_sneeze 51 = .ok (.istore 6, 2) := by decide +kernel
theorem dX6_sneeze_53 : decode cX6_sneeze 53 = .ok (.aload_n 0, 1) := by decide +kernel
theorem dX6_sneeze_54 : decode cX6_sneeze 54 = .ok (.getfield 78, 3) := by decide +kernel
theorem dX6_sneeze_57 : decode cX6_sneeze 57 = .ok (.iconst 1, 1) := by decide +kernel
theorem dX6_sneeze_58 : decode cX6_sneeze 58 = .ok (.if_icmp .le 7, 3) := by decide +kernel
theorem dX6_sneeze_61 : decode cX6_sneeze 61 = .ok (.iload_n 2, 1) := by decide +kernel
theorem dX6_sneeze_62 : decode cX6_sneeze 62 = .ok (.goto 4, 3) := by decide +kernel
theorem dX6_sneeze_65 : decode cX6_sneeze 65 = .ok (.iconst 0, 1) := by decide +kernel
theorem dX6_sneeze_66 : decode cX6_sneeze 66 = .ok (.istore 7, 2) := by decide +kernel
theorem dX6_sneeze_68 : decode cX6_sneeze 68 = .ok (.aload_n 0, 1) := by decide +kernel
theorem dX6_sneeze_69 : decode cX6_sneeze 69 = .ok (.iload_n 1, 1) := by decide +kernel
theorem dX6_sneeze_70 : decode cX6_sneeze 70 = .ok (.invokevirtual 119, 3) := by decide +kernel
theorem dX6_sneeze_73 : decode cX6_sneeze 73 = .ok (.iconst 1, 1) := by decide +kernel
theorem dX6_sneeze_74 : decode cX6_sneeze 74 = .ok (.iadd, 1) := by decide +kernel
theorem dX6_sneeze_75 : decode cX6_sneeze 75 = .ok (.istore 8, 2) := by decide +kernel
theorem dX6_sneeze_77 : decode cX6_sneeze 77 = .ok (.iload 7, 2) := by decide +kernel
theorem dX6_sneeze_79 : decode cX6_sneeze 79 = .ok (.ifCond .le 47, 3) := by decide +kernel
theorem dX6_sneeze_82 : decode cX6_sneeze 82 = .ok (.iload 4, 2) := by decide +kernel
theorem dX6_sneeze_84 : decode cX6_sneeze 84 = .ok (.bipush 60, 2) := by decide +kernel
theorem dX6_sneeze_86 : decode cX6_sneeze 86 = .ok (.if_icmp .ge 40, 3) := by decide +kernel
theorem dX6_sneeze_89 : decode cX6_sneeze 89 = .ok (.aload_n 0, 1) := by decide +kernel
theorem dX6_sneeze_90 : decode cX6_sneeze 90 = .ok (.getfield 26, 3) := by decide +kernel
theorem dX6_sneeze_93 : decode cX6_sneeze 93 = .ok (.iload 8, 2) := by decide +kernel
theorem dX6_sneeze_95 : decode cX6_sneeze 95 = .ok (.aload_n 0, 1) := by decide +kernel
theorem dX6_sneeze_96 : decode cX6_sneeze 96 = .ok (.getfield 78, 3) := by decide +kernel
theorem dX6_sneeze_99 : decode cX6_sneeze 99 = .ok (.irem, 1) := by decide +kernel
theorem dX6_sneeze_100 : decode cX6_sneeze 100 = .ok (.iaload, 1) := by decide +kernel
theorem dX6_sneeze_101 : decode cX6_sneeze 101 = .ok (.istore 5, 2) := by decide +kernel
theorem dX6_sneeze_103 : decode cX6_sneeze 103 = .ok (.iload 7, 2) := by decide +kernel
theorem dX6_sneeze_105 : decode cX6_sneeze 105 = .ok (.istore 6, 2) := by decide +kernel
theorem dX6_sneeze_107 : decode cX6_sneeze 107 = .ok (.iinc 4 1, 3) := by decide +kernel
theorem dX6_sneeze_110 : decode cX6_sneeze 110 = .ok (.aload_n 0, 1) := by decide +kernel
theorem dX6_sneeze_111 : decode cX6_sneeze 111 = .ok (.iload 5, 2) := by decide +kernel
theorem dX6_sneeze_113 : decode cX6_sneeze 113 = .ok (.iload 7, 2) := by decide +kernel
theorem dX6_sneeze_115 : decode cX6_sneeze 115 = .ok (.invokevirtual 259, 3) := by decide +kernel
theorem dX6_sneeze_118 : decode cX6_sneeze 118 = .ok (.istore 7, 2) := by decide +kernel
theorem dX6_sneeze_120 : decode cX6_sneeze 120 = .ok (.iinc 8 1, 3) := by decide +kernel
theorem dX6_sneeze_123 : decode cX6_sneeze 123 = .ok (.goto (-46), 3) := by decide +kernel
theorem dX6_sneeze_126 : decode cX6_sneeze 126 = .ok (.iload_n 3, 1) := by decide +kernel
theorem dX6_sneeze_127 : decode cX6_sneeze 127 = .ok (.ifCond .ne 8, 3) := by decide +kernel
theorem dX6_sneeze_130 : decode cX6_sneeze 130 = .ok (.iload 4, 2) := by decide +kernel
theorem dX6_sneeze_132 : decode cX6_sneeze 132 = .ok (.goto 15, 3) := by decide +kernel
theorem dX6_sneeze_135 : decode cX6_sneeze 135 = .ok (.iload_n 3, 1) := by decide +kernel
theorem dX6_sneeze_136 : decode cX6_sneeze 136 = .ok (.iconst 1, 1) := by decide +kernel
theorem dX6_sneeze_137 : decode cX6_sneeze 137 = .ok (.if_icmp .ne 8, 3) := by decide +kernel
theorem dX6_sneeze_140 : decode cX6_sneeze 140 = .ok (.iload 5, 2) := by decide +kernel
theorem dX6_sneeze_142 : decode cX6_sneeze 142 = .ok (.goto 5, 3) := by decide +kernel
theorem dX6_sneeze_145 : decode cX6_sneeze 145 = .ok (.iload 6, 2) := by decide +kernel
theorem dX6_sneeze_147 : decode cX6_sneeze 147 = .ok (.ireturn, 1) := by decide +kernel
theorem dX6_laysAside_0 : decode cX6_laysAside 0 = .ok (.iconst 0, 1) := by decide +kernel
theorem dX6_laysAside_1 : decode cX6_laysAside 1 = .ok (.istore_n 1, 1) := by decide +kernel
theorem dX6_laysAside_2 : decode cX6_laysAside 2 = .ok (.iload_n 1, 1) := by decide +kernel
theorem dX6_laysAside_3 : decode cX6_laysAside 3 = .ok (.bipush 18, 2) := by decide +kernel
theorem dX6_laysAside_5 : decode cX6_laysAside 5 = .ok (.if_icmp .ge 21, 3) := by decide +kernel
theorem dX6_laysAside_8 : decode cX6_laysAside 8 = .ok (.aload_n 0, 1) := by decide +kernel
theorem dX6_laysAside_9 : decode cX6_laysAside 9 = .ok (.getfield 32, 3) := by decide +kernel
theorem dX6_laysAside_12 : decode cX6_laysAside 12 = .ok (.iload_n 1, 1) := by decide +kernel
theorem dX6_laysAside_13 : decode cX6_laysAside 13 = .ok (.aload_n 0, 1) := by decide +kernel
theorem dX6_laysAside_14 : decode cX6_laysAside 14 = .ok (.getfield 23, 3) := by decide +kernel
theorem dX6_laysAside_17 : decode cX6_laysAside 17 = .ok (.iload_n 1, 1) := by decide +kernel
theorem dX6_laysAside_18 : decode cX6_laysAside 18 = .ok (.iaload, 1) := by decide +kernel
theorem dX6_laysAside_19 : decode cX6_laysAside 19 = .ok (.iastore, 1) := by decide +kernel
theorem dX6_laysAside_20 : decode cX6_laysAside 20 = .ok (.iinc 1 1, 3) := by decide +kernel
theorem dX6_laysAside_23 : decode cX6_laysAside 23 = .ok (.goto (-21), 3) := by decide +kernel
theorem dX6_laysAside_26 : decode cX6_laysAside 26 = .ok (.aload_n 0, 1) := by decide +kernel
theorem dX6_laysAside_27 : decode cX6_laysAside 27 = .ok (.getfield 32, 3) := by decide +kernel
theorem dX6_laysAside_30 : decode cX6_laysAside 30 = .ok (.bipush 18, 2) := by decide +kernel
theorem dX6_laysAside_32 : decode cX6_laysAside 32 = .ok (.aload_n 0, 1) := by decide +kernel
theorem dX6_laysAside_33 : decode cX6_laysAside 33 = .ok (.getfield 102, 3) := by decide +kernel
theorem dX6_laysAside_36 : decode cX6_laysAside 36 = .ok (.iastore, 1) := by decide +kernel
theorem dX6_laysAside_37 : decode cX6_laysAside 37 = .ok (.return_, 1) := by decide +kernel
theorem dX6_laysBack_0 : decode cX6_laysBack 0 = .ok (.iconst 0, 1) := by decide +kernel
theorem dX6_laysBack_1 : decode cX6_laysBack 1 = .ok (.istore_n 1, 1) := by decide +kernel
theorem dX6_laysBack_2 : decode cX6_laysBack 2 = .ok (.iload_n 1, 1) := by decide +kernel
theorem dX6_laysBack_3 : decode cX6_laysBack 3 = .ok (.bipush 18, 2) := by decide +kernel
theorem dX6_laysBack_5 : decode cX6_laysBack 5 = .ok (.if_icmp .ge 21, 3) := by decide +kernel
theorem dX6_laysBack_8 : decode cX6_laysBack 8 = .ok (.aload_n 0, 1) := by decide +kernel
theorem dX6_laysBack_9 : decode cX6_laysBack 9 = .ok (.getfield 23, 3) := by decide +kernel
theorem dX6_laysBack_12 : decode cX6_laysBack 12 = .ok (.iload_n 1, 1) := by decide +kernel
theorem dX6_laysBack_13 : decode cX6_laysBack 13 = .ok (.aload_n 0, 1) := by decide +kernel
theorem dX6_laysBack_14 : decode cX6_laysBack 14 = .ok (.getfield 32, 3) := by decide +kernel
theorem dX6_laysBack_17 : decode cX6_laysBack 17 = .ok (.iload_n 1, 1) := by decide +kernel
theorem dX6_laysBack_18 : decode cX6_laysBack 18 = .ok (.iaload, 1) := by decide +kernel
theorem dX6_laysBack_19 : decode cX6_laysBack 19 = .ok (.iastore, 1) := by decide +kernel
theorem dX6_laysBack_20 : decode cX6_laysBack 20 = .ok (.iinc 1 1, 3) := by decide +kernel
theorem dX6_laysBack_23 : decode cX6_laysBack 23 = .ok (.goto (-21), 3) := by decide +kernel
theorem dX6_laysBack_26 : decode cX6_laysBack 26 = .ok (.aload_n 0, 1) := by decide +kernel
theorem dX6_laysBack_27 : decode cX6_laysBack 27 = .ok (.aload_n 0, 1) := by decide +kernel
theorem dX6_laysBack_28 : decode cX6_laysBack 28 = .ok (.getfield 32, 3) := by decide +kernel
theorem dX6_laysBack_31 : decode cX6_laysBack 31 = .ok (.bipush 18, 2) := by decide +kernel
theorem dX6_laysBack_33 : decode cX6_laysBack 33 = .ok (.iaload, 1) := by decide +kernel
theorem dX6_laysBack_34 : decode cX6_laysBack 34 = .ok (.putfield 102, 3) := by decide +kernel
theorem dX6_laysBack_37 : decode cX6_laysBack 37 = .ok (.return_, 1) := by decide +kernel
theorem dX6_run_0 : decode cX6_run 0 = .ok (.iload_n 1, 1) := by decide +kernel
theorem dX6_run_1 : decode cX6_run 1 = .ok (.i2l, 1) := by decide +kernel
theorem dX6_run_2 : decode cX6_run 2 = .ok (.lconst 0, 1) := by decide +kernel
theorem dX6_run_3 : decode cX6_run 3 = .ok (.ldc2_w 287, 3) := by decide +kernel
theorem dX6_run_6 : decode cX6_run 6 = .ok (.invokestatic 70, 3) := by decide +kernel
theorem dX6_run_9 : decode cX6_run 9 = .ok (.ifCond .eq 38, 3) := by decide +kernel
theorem dX6_run_12 : decode cX6_run 12 = .ok (.iload_n 2, 1) := by decide +kernel
theorem dX6_run_13 : decode cX6_run 13 = .ok (.i2l, 1) := by decide +kernel
theorem dX6_run_14 : decode cX6_run 14 = .ok (.lconst 0, 1) := by decide +kernel
theorem dX6_run_15 : decode cX6_run 15 = .ok (.lconst 1, 1) := by decide +kernel
theorem dX6_run_16 : decode cX6_run 16 = .ok (.invokestatic 70, 3) := by decide +kernel
theorem dX6_run_19 : decode cX6_run 19 = .ok (.ifCond .ne 32, 3) := by decide +kernel
theorem dX6_run_22 : decode cX6_run 22 = .ok (.iload_n 2, 1) := by decide +kernel
theorem dX6_run_23 : decode cX6_run 23 = .ok (.i2l, 1) := by decide +kernel
theorem dX6_run_24 : decode cX6_run 24 = .ok (.ldc2_w 163, 3) := by decide +kernel
theorem dX6_run_27 : decode cX6_run 27 = .ok (.ldc2_w 289, 3) := by decide +kernel
theorem dX6_run_30 : decode cX6_run 30 = .ok (.invokestatic 70, 3) := by decide +kernel
theorem dX6_run_33 : decode cX6_run 33 = .ok (.ifCond .eq 14, 3) := by decide +kernel
theorem dX6_run_36 : decode cX6_run 36 = .ok (.aload_n 0, 1) := by decide +kernel
theorem dX6_run_37 : decode cX6_run 37 = .ok (.iload_n 2, 1) := by decide +kernel
theorem dX6_run_38 : decode cX6_run 38 = .ok (.bipush 10, 2) := by decide +kernel
theorem dX6_run_40 : decode cX6_run 40 = .ok (.isub, 1) := by decide +kernel
theorem dX6_run_41 : decode cX6_run 41 = .ok (.invokevirtual 74, 3) := by decide +kernel
theorem dX6_run_44 : decode cX6_run 44 = .ok (.ifCond .ne 7, 3) := by decide +kernel
theorem dX6_run_47 : decode cX6_run 47 = .ok (.sipush (-1000), 3) := by decide +kernel
theorem dX6_run_50 : decode cX6_run 50 = .ok (.ireturn, 1) := by decide +kernel
theorem dX6_run_51 : decode cX6_run 51 = .ok (.aload_n 0, 1) := by decide +kernel
theorem dX6_run_52 : decode cX6_run 52 = .ok (.invokevirtual 291, 3) := by decide +kernel
theorem dX6_run_55 : decode cX6_run 55 = .ok (.iconst 0, 1) := by decide +kernel
theorem dX6_run_56 : decode cX6_run 56 = .ok (.istore_n 3, 1) := by decide +kernel
theorem dX6_run_57 : decode cX6_run 57 = .ok (.iload_n 3, 1) := by decide +kernel
theorem dX6_run_58 : decode cX6_run 58 = .ok (.iload_n 1, 1) := by decide +kernel
theorem dX6_run_59 : decode cX6_run 59 = .ok (.if_icmp .ge 13, 3) := by decide +kernel
theorem dX6_run_62 : decode cX6_run 62 = .ok (.aload_n 0, 1) := by decide +kernel
theorem dX6_run_63 : decode cX6_run 63 = .ok (.invokevirtual 282, 3) := by decide +kernel
theorem dX6_run_66 : decode cX6_run 66 = .ok (.iinc 3 1, 3) := by decide +kernel
theorem dX6_run_69 : decode cX6_run 69 = .ok (.goto (-12), 3) := by decide +kernel
theorem dX6_run_72 : decode cX6_run 72 = .ok (.iload_n 2, 1) := by decide +kernel
theorem dX6_run_73 : decode cX6_run 73 = .ok (.ifCond .ne 10, 3) := by decide +kernel
theorem dX6_run_76 : decode cX6_run 76 = .ok (.aload_n 0, 1) := by decide +kernel
theorem dX6_run_77 : decode cX6_run 77 = .ok (.invokevirtual 262, 3) := by decide +kernel
theorem dX6_run_80 : decode cX6_run 80 = .ok (.goto 28, 3) := by decide +kernel
theorem dX6_run_83 : decode cX6_run 83 = .ok (.iload_n 2, 1) := by decide +kernel
theorem dX6_run_84 : decode cX6_run 84 = .ok (.iconst 1, 1) := by decide +kernel
theorem dX6_run_85 : decode cX6_run 85 = .ok (.if_icmp .ne 10, 3) := by decide +kernel
theorem dX6_run_88 : decode cX6_run 88 = .ok (.aload_n 0, 1) := by decide +kernel
theorem dX6_run_89 : decode cX6_run 89 = .ok (.invokevirtual 265, 3) := by decide +kernel
theorem dX6_run_92 : decode cX6_run 92 = .ok (.goto 16, 3) := by decide +kernel
theorem dX6_run_95 : decode cX6_run 95 = .ok (.aload_n 0, 1) := by decide +kernel
theorem dX6_run_96 : decode cX6_run 96 = .ok (.getfield 23, 3) := by decide +kernel
theorem dX6_run_99 : decode cX6_run 99 = .ok (.iconst 3, 1) := by decide +kernel
theorem dX6_run_100 : decode cX6_run 100 = .ok (.iload_n 2, 1) := by decide +kernel
theorem dX6_run_101 : decode cX6_run 101 = .ok (.bipush 10, 2) := by decide +kernel
theorem dX6_run_103 : decode cX6_run 103 = .ok (.isub, 1) := by decide +kernel
theorem dX6_run_104 : decode cX6_run 104 = .ok (.imul, 1) := by decide +kernel
theorem dX6_run_105 : decode cX6_run 105 = .ok (.iconst 1, 1) := by decide +kernel
theorem dX6_run_106 : decode cX6_run 106 = .ok (.iadd, 1) := by decide +kernel
theorem dX6_run_107 : decode cX6_run 107 = .ok (.iaload, 1) := by decide +kernel
theorem dX6_run_108 : decode cX6_run 108 = .ok (.istore_n 3, 1) := by decide +kernel
theorem dX6_run_109 : decode cX6_run 109 = .ok (.aload_n 0, 1) := by decide +kernel
theorem dX6_run_110 : decode cX6_run 110 = .ok (.invokevirtual 294, 3) := by decide +kernel
theorem dX6_run_113 : decode cX6_run 113 = .ok (.iload_n 3, 1) := by decide +kernel
theorem dX6_run_114 : decode cX6_run 114 = .ok (.ireturn, 1) := by decide +kernel
theorem dX6_opens_0 : decode cX6_opens 0 = .ok (.aload_n 0, 1) := by decide +kernel
theorem dX6_opens_1 : decode cX6_opens 1 = .ok (.invokevirtual 291, 3) := by decide +kernel
theorem dX6_opens_4 : decode cX6_opens 4 = .ok (.iconst 0, 1) := by decide +kernel
theorem dX6_opens_5 : decode cX6_opens 5 = .ok (.istore_n 1, 1) := by decide +kernel
theorem dX6_opens_6 : decode cX6_opens 6 = .ok (.iload_n 1, 1) := by decide +kernel
theorem dX6_opens_7 : decode cX6_opens 7 = .ok (.bipush 60, 2) := by decide +kernel
theorem dX6_opens_9 : decode cX6_opens 9 = .ok (.if_icmp .gt 20, 3) := by decide +kernel
theorem dX6_opens_12 : decode cX6_opens 12 = .ok (.aload_n 0, 1) := by decide +kernel
theorem dX6_opens_13 : decode cX6_opens 13 = .ok (.invokevirtual 265, 3) := by decide +kernel
theorem dX6_opens_16 : decode cX6_opens 16 = .ok (.ifCond .ne 13, 3) := by decide +kernel
theorem dX6_opens_19 : decode cX6_opens 19 = .ok (.aload_n 0, 1) := by decide +kernel
theorem dX6_opens_20 : decode cX6_opens 20 = .ok (.invokevirtual 282, 3) := by decide +kernel
theorem dX6_opens_23 : decode cX6_opens 23 = .ok (.iinc 1 1, 3) := by decide +kernel
theorem dX6_opens_26 : decode cX6_opens 26 = .ok (.goto (-20), 3) := by decide +kernel
theorem dX6_opens_29 : decode cX6_opens 29 = .ok (.aload_n 0, 1) := by decide +kernel
theorem dX6_opens_30 : decode cX6_opens 30 = .ok (.invokevirtual 294, 3) := by decide +kernel
theorem dX6_opens_33 : decode cX6_opens 33 = .ok (.iload_n 1, 1) := by decide +kernel
theorem dX6_opens_34 : decode cX6_opens 34 = .ok (.bipush 60, 2) := by decide +kernel
theorem dX6_opens_36 : decode cX6_opens 36 = .ok (.if_icmp .le 7, 3) := by decide +kernel
theorem dX6_opens_39 : decode cX6_opens 39 = .ok (.iconst (-1), 1) := by decide +kernel
theorem dX6_opens_40 : decode cX6_opens 40 = .ok (.goto 4, 3) := by decide +kernel
theorem dX6_opens_43 : decode cX6_opens 43 = .ok (.iload_n 1, 1) := by decide +kernel
theorem dX6_opens_44 : decode cX6_opens 44 = .ok (.ireturn, 1) := by decide +kernel
theorem dX6_digitsOf_0 : decode cX6_digitsOf 0 = .ok (.iconst 0, 1) := by decide +kernel
theorem dX6_digitsOf_1 : decode cX6_digitsOf 1 = .ok (.istore_n 1, 1) := by decide +kernel
theorem dX6_digitsOf_2 : decode cX6_digitsOf 2 = .ok (.iconst 0, 1) := by decide +kernel
theorem dX6_digitsOf_3 : decode cX6_digitsOf 3 = .ok (.istore_n 2, 1) := by decide +kernel
theorem dX6_digitsOf_4 : decode cX6_digitsOf 4 = .ok (.iload_n 2, 1) := by decide +kernel
theorem dX6_digitsOf_5 : decode cX6_digitsOf 5 = .ok (.aload_n 0, 1) := by decide +kernel
theorem dX6_digitsOf_6 : decode cX6_digitsOf 6 = .ok (.getfield 78, 3) := by decide +kernel
theorem dX6_digitsOf_9 : decode cX6_digitsOf 9 = .ok (.if_icmp .ge 23, 3) := by decide +kernel
theorem dX6_digitsOf_12 : decode cX6_digitsOf 12 = .ok (.bipush 10, 2) := by decide +kernel
theorem dX6_digitsOf_14 : decode cX6_digitsOf 14 = .ok (.iload_n 1, 1) := by decide +kernel
theorem dX6_digitsOf_15 : decode cX6_digitsOf 15 = .ok (.imul, 1) := by decide +kernel
theorem dX6_digitsOf_16 : decode cX6_digitsOf 16 = .ok (.aload_n 0, 1) := by decide +kernel
theorem dX6_digitsOf_17 : decode cX6_digitsOf 17 = .ok (.getfield 26, 3) := by decide +kernel
theorem dX6_digitsOf_20 : decode cX6_digitsOf 20 = .ok (.iload_n 2, 1) := by decide +kernel
theorem dX6_digitsOf_21 : decode cX6_digitsOf 21 = .ok (.iaload, 1) := by decide +kernel
theorem dX6_digitsOf_22 : decode cX6_digitsOf 22 = .ok (.iadd, 1) := by decide +kernel
theorem dX6_digitsOf_23 : decode cX6_digitsOf 23 = .ok (.iconst 1, 1) := by decide +kernel
theorem dX6_digitsOf_24 : decode cX6_digitsOf 24 = .ok (.iadd, 1) := by decide +kernel
theorem dX6_digitsOf_25 : decode cX6_digitsOf 25 = .ok (.istore_n 1, 1) := by decide +kernel
theorem dX6_digitsOf_26 : decode cX6_digitsOf 26 = .ok (.iinc 2 1, 3) := by decide +kernel
theorem dX6_digitsOf_29 : decode cX6_digitsOf 29 = .ok (.goto (-25), 3) := by decide +kernel
theorem dX6_digitsOf_32 : decode cX6_digitsOf 32 = .ok (.iload_n 1, 1) := by decide +kernel
theorem dX6_digitsOf_33 : decode cX6_digitsOf 33 = .ok (.ireturn, 1) := by decide +kernel
theorem dX6_orders_0 : decode cX6_orders 0 = .ok (.iload_n 1, 1) := by decide +kernel
theorem dX6_orders_1 : decode cX6_orders 1 = .ok (.aload_n 0, 1) := by decide +kernel
theorem dX6_orders_2 : decode cX6_orders 2 = .ok (.getfield 78, 3) := by decide +kernel
theorem dX6_orders_5 : decode cX6_orders 5 = .ok (.if_icmp .lt 37, 3) := by decide +kernel
theorem dX6_orders_8 : decode cX6_orders 8 = .ok (.aload_n 0, 1) := by decide +kernel
theorem dX6_orders_9 : decode cX6_orders 9 = .ok (.invokevirtual 262, 3) := by decide +kernel
theorem dX6_orders_12 : decode cX6_orders 12 = .ok (.istore_n 3, 1) := by decide +kernel
theorem dX6_orders_13 : decode cX6_orders 13 = .ok (.aload_n 0, 1) := by decide +kernel
theorem dX6_orders_14 : decode cX6_orders 14 = .ok (.getfield 297, 3) := by decide +kernel
theorem dX6_orders_17 : decode cX6_orders 17 = .ok (.ifCond .eq 11, 3) := by decide +kernel
theorem dX6_orders_20 : decode cX6_orders 20 = .ok (.iload_n 3, 1) := by decide +kernel
theorem dX6_orders_21 : decode cX6_orders 21 = .ok (.aload_n 0, 1) := by decide +kernel
theorem dX6_orders_22 : decode cX6_orders 22 = .ok (.getfield 300, 3) := by decide +kernel
theorem dX6_orders_25 : decode cX6_orders 25 = .ok (.if_icmp .le 16, 3) := by decide +kernel
theorem dX6_orders_28 : decode cX6_orders 28 = .ok (.aload_n 0, 1) := by decide +kernel
theorem dX6_orders_29 : decode cX6_orders 29 = .ok (.aload_n 0, 1) := by decide +kernel
theorem dX6_orders_30 : decode cX6_orders 30 = .ok (.invokevirtual 303, 3) := by decide +kernel
theorem dX6_orders_33 : decode cX6_orders 33 = .ok (.putfield 297, 3) := by decide +kernel
theorem dX6_orders_36 : decode cX6_orders 36 = .ok (.aload_n 0, 1) := by decide +kernel
theorem dX6_orders_37 : decode cX6_orders 37 = .ok (.iload_n 3, 1) := by decide +kernel
theorem dX6_orders_38 : decode cX6_orders 38 = .ok (.putfield 300, 3) := by decide +kernel
theorem dX6_orders_41 : decode cX6_orders 41 = .ok (.return_, 1) := by decide +kernel
theorem dX6_orders_42 : decode cX6_orders 42 = .ok (.iconst 0, 1) := by decide +kernel
theorem dX6_orders_43 : decode cX6_orders 43 = .ok (.istore_n 3, 1) := by decide +kernel
theorem dX6_orders_44 : decode cX6_orders 44 = .ok (.iload_n 3, 1) := by decide +kernel
theorem dX6_orders_45 : decode cX6_orders 45 = .ok (.aload_n 0, 1) := by decide +kernel
theorem dX6_orders_46 : decode cX6_orders 46 = .ok (.getfield 67, 3) := by decide +kernel
theorem dX6_orders_49 : decode cX6_orders 49 = .ok (.if_icmp .ge 39, 3) := by decide +kernel
theorem dX6_orders_52 : decode cX6_orders 52 = .ok (.iload_n 2, 1) := by decide +kernel
theorem dX6_orders_53 : decode cX6_orders 53 = .ok (.iload_n 3, 1) := by decide +kernel
theorem dX6_orders_54 : decode cX6_orders 54 = .ok (.ishr, 1) := by decide +kernel
theorem dX6_orders_55 : decode cX6_orders 55 = .ok (.iconst 1, 1) := by decide +kernel
theorem dX6_orders_56 : decode cX6_orders 56 = .ok (.iand, 1) := by decide +kernel
theorem dX6_orders_57 : decode cX6_orders 57 = .ok (.iconst 1, 1) := by decide +kernel
theorem dX6_orders_58 : decode cX6_orders 58 = .ok (.if_icmp .ne 24, 3) := by decide +kernel
theorem dX6_orders_61 : decode cX6_orders 61 = .ok (.aload_n 0, 1) := by decide +kernel
theorem dX6_orders_62 : decode cX6_orders 62 = .ok (.getfield 26, 3) := by decide +kernel
theorem dX6_orders_65 : decode cX6_orders 65 = .ok (.iload_n 1, 1) := by decide +kernel
theorem dX6_orders_66 : decode cX6_orders 66 = .ok (.iload_n 3, 1) := by decide +kernel
theorem dX6_orders_67 : decode cX6_orders 67 = .ok (.iastore, 1) := by decide +kernel
theorem dX6_orders_68 : decode cX6_orders 68 = .ok (.aload_n 0, 1) := by decide +kernel
theorem dX6_orders_69 : decode cX6_orders 69 = .ok (.iload_n 1, 1) := by decide +kernel
theorem dX6_orders_70 : decode cX6_orders 70 = .ok (.iconst 1, 1) := by decide +kernel
theorem dX6_orders_71 : decode cX6_orders 71 = .ok (.iadd, 1) := by decide +kernel
theorem dX6_orders_72 : decode cX6_orders 72 = .ok (.iload_n 2, 1) := by decide +kernel
theorem dX6_orders_73 : decode cX6_orders 73 = .ok (.iconst 1, 1) := by decide +kernel
theorem dX6_orders_74 : decode cX6_orders 74 = .ok (.iload_n 3, 1) := by decide +kernel
theorem dX6_orders_75 : decode cX6_orders 75 = .ok (.ishl, 1) := by decide +kernel
theorem dX6_orders_76 : decode cX6_orders 76 = .ok (.iconst (-1), 1) := by decide +kernel
theorem dX6_orders_77 : decode cX6_orders 77 = .ok (.ixor, 1) := by decide +kernel
theorem dX6_orders_78 : decode cX6_orders 78 = .ok (.iand, 1) := by decide +kernel
theorem dX6_orders_79 : decode cX6_orders 79 = .ok (.invokevirtual 306, 3) := by decide +kernel
theorem dX6_orders_82 : decode cX6_orders 82 = .ok (.iinc 3 1, 3) := by decide +kernel
theorem dX6_orders_85 : decode cX6_orders 85 = .ok (.goto (-41), 3) := by decide +kernel
theorem dX6_orders_88 : decode cX6_orders 88 = .ok (.return_, 1) := by decide +kernel
theorem dX6_order_0 : decode cX6_order 0 = .ok (.iload_n 1, 1) := by decide +kernel
theorem dX6_order_1 : decode cX6_order 1 = .ok (.i2l, 1) := by decide +kernel
theorem dX6_order_2 : decode cX6_order 2 = .ok (.lconst 0, 1) := by decide +kernel
theorem dX6_order_3 : decode cX6_order 3 = .ok (.lconst 1, 1) := by decide +kernel
theorem dX6_order_4 : decode cX6_order 4 = .ok (.invokestatic 70, 3) := by decide +kernel
theorem dX6_order_7 : decode cX6_order 7 = .ok (.ifCond .ne 6, 3) := by decide +kernel
theorem dX6_order_10 : decode cX6_order 10 = .ok (.bipush (-2), 2) := by decide +kernel
theorem dX6_order_12 : decode cX6_order 12 = .ok (.ireturn, 1) := by decide +kernel
theorem dX6_order_13 : decode cX6_order 13 = .ok (.iconst 0, 1) := by decide +kernel
theorem dX6_order_14 : decode cX6_order 14 = .ok (.istore_n 2, 1) := by decide +kernel
theorem dX6_order_15 : decode cX6_order 15 = .ok (.iconst 0, 1) := by decide +kernel
theorem dX6_order_16 : decode cX6_order 16 = .ok (.istore_n 3, 1) := by decide +kernel
theorem dX6_order_17 : decode cX6_order 17 = .ok (.iload_n 3, 1) := by decide +kernel
theorem dX6_order_18 : decode cX6_order 18 = .ok (.aload_n 0, 1) := by decide +kernel
theorem dX6_order_19 : decode cX6_order 19 = .ok (.getfield 78, 3) := by decide +kernel
theorem dX6_order_22 : decode cX6_order 22 = .ok (.if_icmp .ge 40, 3) := by decide +kernel
theorem dX6_order_25 : decode cX6_order 25 = .ok (.aload_n 0, 1) := by decide +kernel
theorem dX6_order_26 : decode cX6_order 26 = .ok (.getfield 35, 3) := by decide +kernel
theorem dX6_order_29 : decode cX6_order 29 = .ok (.iload_n 3, 1) := by decide +kernel
theorem dX6_order_30 : decode cX6_order 30 = .ok (.aload_n 0, 1) := by decide +kernel
theorem dX6_order_31 : decode cX6_order 31 = .ok (.getfield 26, 3) := by decide +kernel
theorem dX6_order_34 : decode cX6_order 34 = .ok (.iload_n 3, 1) := by decide +kernel
theorem dX6_order_35 : decode cX6_order 35 = .ok (.iaload, 1) := by decide +kernel
theorem dX6_order_36 : decode cX6_order 36 = .ok (.iastore, 1) := by decide +kernel
theorem dX6_order_37 : decode cX6_order 37 = .ok (.iload_n 2, 1) := by decide +kernel
theorem dX6_order_38 : decode cX6_order 38 = .ok (.iload_n 3, 1) := by decide +kernel
theorem dX6_order_39 : decode cX6_order 39 = .ok (.ifCond .ne 7, 3) := by decide +kernel
theorem dX6_order_42 : decode cX6_order 42 = .ok (.iconst 0, 1) := by decide +kernel
theorem dX6_order_43 : decode cX6_order 43 = .ok (.goto 11, 3) := by decide +kernel
theorem dX6_order_46 : decode cX6_order 46 = .ok (.iconst 1, 1) := by decide +kernel
theorem dX6_order_47 : decode cX6_order 47 = .ok (.aload_n 0, 1) := by decide +kernel
theorem dX6_order_48 : decode cX6_order 48 = .ok (.getfield 26, 3) := by decide +kernel
theorem dX6_order_51 : decode cX6_order 51 = .ok (.iload_n 3, 1) := by decide +kernel
theorem dX6_order_52 : decode cX6_order 52 = .ok (.iaload, 1) := by decide +kernel
theorem dX6_order_53 : decode cX6_order 53 = .ok (.ishl, 1) := by decide +kernel
theorem dX6_order_54 : decode cX6_order 54 = .ok (.ior, 1) := by decide +kernel
theorem dX6_order_55 : decode cX6_order 55 = .ok (.istore_n 2, 1) := by decide +kernel
theorem dX6_order_56 : decode cX6_order 56 = .ok (.iinc 3 1, 3) := by decide +kernel
theorem dX6_order_59 : decode cX6_order 59 = .ok (.goto (-42), 3) := by decide +kernel
theorem dX6_order_62 : decode cX6_order 62 = .ok (.aload_n 0, 1) := by decide +kernel
theorem dX6_order_63 : decode cX6_order 63 = .ok (.iconst 0, 1) := by decide +kernel
theorem dX6_order_64 : decode cX6_order 64 = .ok (.putfield 297, 3) := by decide +kernel
theorem dX6_order_67 : decode cX6_order 67 = .ok (.aload_n 0, 1) := by decide +kernel
theorem dX6_order_68 : decode cX6_order 68 = .ok (.iconst (-1), 1) := by decide +kernel
theorem dX6_order_69 : decode cX6_order 69 = .ok (.putfield 300, 3) := by decide +kernel
theorem dX6_order_72 : decode cX6_order 72 = .ok (.aload_n 0, 1) := by decide +kernel
theorem dX6_order_73 : decode cX6_order 73 = .ok (.getfield 78, 3) := by decide +kernel
theorem dX6_order_76 : decode cX6_order 76 = .ok (.ifCond .le 9, 3) := by decide +kernel
theorem dX6_order_79 : decode cX6_order 79 = .ok (.aload_n 0, 1) := by decide +kernel
theorem dX6_order_80 : decode cX6_order 80 = .ok (.iconst 1, 1) := by decide +kernel
theorem dX6_order_81 : decode cX6_order 81 = .ok (.iload_n 2, 1) := by decide +kernel
theorem dX6_order_82 : decode cX6_order 82 = .ok (.invokevirtual 306, 3) := by decide +kernel
theorem dX6_order_85 : decode cX6_order 85 = .ok (.iconst 0, 1) := by decide +kernel
theorem dX6_order_86 : decode cX6_order 86 = .ok (.istore_n 3, 1) := by decide +kernel
theorem dX6_order_87 : decode cX6_order 87 = .ok (.iload_n 3, 1) := by decide +kernel
theorem dX6_order_88 : decode cX6_order 88 = .ok (.aload_n 0, 1) := by decide +kernel
theorem dX6_order_89 : decode cX6_order 89 = .ok (.getfield 78, 3) := by decide +kernel
theorem dX6_order_92 : decode cX6_order 92 = .ok (.if_icmp .ge 21, 3) := by decide +kernel
theorem dX6_order_95 : decode cX6_order 95 = .ok (.aload_n 0, 1) := by decide +kernel
theorem dX6_order_96 : decode cX6_order 96 = .ok (.getfield 26, 3) := by decide +kernel
theorem dX6_order_99 : decode cX6_order 99 = .ok (.iload_n 3, 1) := by decide +kernel
theorem dX6_order_100 : decode cX6_order 100 = .ok (.aload_n 0, 1) := by decide +kernel
theorem dX6_order_101 : decode cX6_order 101 = .ok (.getfield 35, 3) := by decide +kernel
theorem dX6_order_104 : decode cX6_order 104 = .ok (.iload_n 3, 1) := by decide +kernel
theorem dX6_order_105 : decode cX6_order 105 = .ok (.iaload, 1) := by decide +kernel
theorem dX6_order_106 : decode cX6_order 106 = .ok (.iastore, 1) := by decide +kernel
theorem dX6_order_107 : decode cX6_order 107 = .ok (.iinc 3 1, 3) := by decide +kernel
theorem dX6_order_110 : decode cX6_order 110 = .ok (.goto (-23), 3) := by decide +kernel
theorem dX6_order_113 : decode cX6_order 113 = .ok (.iload_n 1, 1) := by decide +kernel
theorem dX6_order_114 : decode cX6_order 114 = .ok (.ifCond .ne 10, 3) := by decide +kernel
theorem dX6_order_117 : decode cX6_order 117 = .ok (.aload_n 0, 1) := by decide +kernel
theorem dX6_order_118 : decode cX6_order 118 = .ok (.getfield 297, 3) := by decide +kernel
theorem dX6_order_121 : decode cX6_order 121 = .ok (.goto 7, 3) := by decide +kernel
theorem dX6_order_124 : decode cX6_order 124 = .ok (.aload_n 0, 1) := by decide +kernel
theorem dX6_order_125 : decode cX6_order 125 = .ok (.getfield 300, 3) := by decide +kernel
theorem dX6_order_128 : decode cX6_order 128 = .ok (.ireturn, 1) := by decide +kernel
theorem dX6_let_0 : decode cX6_let 0 = .ok (.iload_n 1, 1) := by decide +kernel
theorem dX6_let_1 : decode cX6_let 1 = .ok (.i2l, 1) := by decide +kernel
theorem dX6_let_2 : decode cX6_let 2 = .ok (.lconst 0, 1) := by decide +kernel
theorem dX6_let_3 : decode cX6_let 3 = .ok (.lconst 1, 1) := by decide +kernel
theorem dX6_let_4 : decode cX6_let 4 = .ok (.invokestatic 70, 3) := by decide +kernel
theorem dX6_let_7 : decode cX6_let 7 = .ok (.ifCond .ne 6, 3) := by decide +kernel
theorem dX6_let_10 : decode cX6_let 10 = .ok (.bipush (-2), 2) := by decide +kernel
theorem dX6_let_12 : decode cX6_let 12 = .ok (.ireturn, 1) := by decide +kernel
theorem dX6_let_13 : decode cX6_let 13 = .ok (.iconst (-1), 1) := by decide +kernel
theorem dX6_let_14 : decode cX6_let 14 = .ok (.istore_n 2, 1) := by decide +kernel
theorem dX6_let_15 : decode cX6_let 15 = .ok (.iconst (-1), 1) := by decide +kernel
theorem dX6_let_16 : decode cX6_let 16 = .ok (.istore_n 3, 1) := by decide +kernel
theorem dX6_let_17 : decode cX6_let 17 = .ok (.iconst 0, 1) := by decide +kernel
theorem dX6_let_18 : decode cX6_let 18 = .ok (.istore 4, 2) := by decide +kernel
theorem dX6_let_20 : decode cX6_let 20 = .ok (.iload 4, 2) := by decide +kernel
theorem dX6_let_22 : decode cX6_let 22 = .ok (.aload_n 0, 1) := by decide +kernel
theorem dX6_let_23 : decode cX6_let 23 = .ok (.getfield 67, 3) := by decide +kernel
theorem dX6_let_26 : decode cX6_let 26 = .ok (.if_icmp .ge 63, 3) := by decide +kernel
theorem dX6_let_29 : decode cX6_let 29 = .ok (.aload_n 0, 1) := by decide +kernel
theorem dX6_let_30 : decode cX6_let 30 = .ok (.getfield 78, 3) := by decide +kernel
theorem dX6_let_33 : decode cX6_let 33 = .ok (.iconst 2, 1) := by decide +kernel
theorem dX6_let_34 : decode cX6_let 34 = .ok (.if_icmp .le 55, 3) := by decide +kernel
theorem dX6_let_37 : decode cX6_let 37 = .ok (.aload_n 0, 1) := by decide +kernel
theorem dX6_let_38 : decode cX6_let 38 = .ok (.iload 4, 2) := by decide +kernel
theorem dX6_let_40 : decode cX6_let 40 = .ok (.invokevirtual 119, 3) := by decide +kernel
theorem dX6_let_43 : decode cX6_let 43 = .ok (.istore 5, 2) := by decide +kernel
theorem dX6_let_45 : decode cX6_let 45 = .ok (.iload 5, 2) := by decide +kernel
theorem dX6_let_47 : decode cX6_let 47 = .ok (.iconst (-1), 1) := by decide +kernel
theorem dX6_let_48 : decode cX6_let 48 = .ok (.if_icmp .eq 35, 3) := by decide +kernel
theorem dX6_let_51 : decode cX6_let 51 = .ok (.aload_n 0, 1) := by decide +kernel
theorem dX6_let_52 : decode cX6_let 52 = .ok (.iload 5, 2) := by decide +kernel
theorem dX6_let_54 : decode cX6_let 54 = .ok (.invokevirtual 271, 3) := by decide +kernel
theorem dX6_let_57 : decode cX6_let 57 = .ok (.aload_n 0, 1) := by decide +kernel
theorem dX6_let_58 : decode cX6_let 58 = .ok (.invokevirtual 262, 3) := by decide +kernel
theorem dX6_let_61 : decode cX6_let 61 = .ok (.istore 6, 2) := by decide +kernel
theorem dX6_let_63 : decode cX6_let 63 = .ok (.aload_n 0, 1) := by decide +kernel
theorem dX6_let_64 : decode cX6_let 64 = .ok (.iload 4, 2) := by decide +kernel
theorem dX6_let_66 : decode cX6_let 66 = .ok (.iload 5, 2) := by decide +kernel
theorem dX6_let_68 : decode cX6_let 68 = .ok (.invokevirtual 275, 3) := by decide +kernel
theorem dX6_let_71 : decode cX6_let 71 = .ok (.iload 6, 2) := by decide +kernel
theorem dX6_let_73 : decode cX6_let 73 = .ok (.iload_n 3, 1) := by decide +kernel
theorem dX6_let_74 : decode cX6_let 74 = .ok (.if_icmp .le 9, 3) := by decide +kernel
theorem dX6_let_77 : decode cX6_let 77 = .ok (.iload 4, 2) := by decide +kernel
theorem dX6_let_79 : decode cX6_let 79 = .ok (.istore_n 2, 1) := by decide +kernel
theorem dX6_let_80 : decode cX6_let 80 = .ok (.iload 6, 2) := by decide +kernel
theorem dX6_let_82 : decode cX6_let 82 = .ok (.istore_n 3, 1) := by decide +kernel
theorem dX6_let_83 : decode cX6_let 83 = .ok (.iinc 4 1, 3) := by decide +kernel
theorem dX6_let_86 : decode cX6_let 86 = .ok (.goto (-66), 3) := by decide +kernel
theorem dX6_let_89 : decode cX6_let 89 = .ok (.iload_n 1, 1) := by decide +kernel
theorem dX6_let_90 : decode cX6_let 90 = .ok (.ifCond .ne 7, 3) := by decide +kernel
theorem dX6_let_93 : decode cX6_let 93 = .ok (.iload_n 2, 1) := by decide +kernel
theorem dX6_let_94 : decode cX6_let 94 = .ok (.goto 4, 3) := by decide +kernel
theorem dX6_let_97 : decode cX6_let 97 = .ok (.iload_n 3, 1) := by decide +kernel
theorem dX6_let_98 : decode cX6_let 98 = .ok (.ireturn, 1) := by decide +kernel
theorem dX6_letsIn_0 : decode cX6_letsIn 0 = .ok (.aload_n 0, 1) := by decide +kernel
theorem dX6_letsIn_1 : decode cX6_letsIn 1 = .ok (.iload_n 1, 1) := by decide +kernel
theorem dX6_letsIn_2 : decode cX6_letsIn 2 = .ok (.invokevirtual 74, 3) := by decide +kernel
theorem dX6_letsIn_5 : decode cX6_letsIn 5 = .ok (.ifCond .eq 13, 3) := by decide +kernel
theorem dX6_letsIn_8 : decode cX6_letsIn 8 = .ok (.iload_n 2, 1) := by decide +kernel
theorem dX6_letsIn_9 : decode cX6_letsIn 9 = .ok (.i2l, 1) := by decide +kernel
theorem dX6_letsIn_10 : decode cX6_letsIn 10 = .ok (.lconst 0, 1) := by decide +kernel
theorem dX6_letsIn_11 : decode cX6_letsIn 11 = .ok (.lconst 1, 1) := by decide +kernel
theorem dX6_letsIn_12 : decode cX6_letsIn 12 = .ok (.invokestatic 70, 3) := by decide +kernel
theorem dX6_letsIn_15 : decode cX6_letsIn 15 = .ok (.ifCond .ne 6, 3) := by decide +kernel
theorem dX6_letsIn_18 : decode cX6_letsIn 18 = .ok (.bipush (-2), 2) := by decide +kernel
theorem dX6_letsIn_20 : decode cX6_letsIn 20 = .ok (.ireturn, 1) := by decide +kernel
theorem dX6_letsIn_21 : decode cX6_letsIn 21 = .ok (.aload_n 0, 1) := by decide +kernel
theorem dX6_letsIn_22 : decode cX6_letsIn 22 = .ok (.iload_n 1, 1) := by decide +kernel
theorem dX6_letsIn_23 : decode cX6_letsIn 23 = .ok (.invokevirtual 119, 3) := by decide +kernel
theorem dX6_letsIn_26 : decode cX6_letsIn 26 = .ok (.iconst (-1), 1) := by decide +kernel
theorem dX6_letsIn_27 : decode cX6_letsIn 27 = .ok (.if_icmp .eq 6, 3) := by decide +kernel
theorem dX6_letsIn_30 : decode cX6_letsIn 30 = .ok (.bipush (-3), 2) := by decide +kernel
theorem dX6_letsIn_32 : decode cX6_letsIn 32 = .ok (.ireturn, 1) := by decide +kernel
theorem dX6_letsIn_33 : decode cX6_letsIn 33 = .ok (.iconst (-1), 1) := by decide +kernel
theorem dX6_letsIn_34 : decode cX6_letsIn 34 = .ok (.istore_n 3, 1) := by decide +kernel
theorem dX6_letsIn_35 : decode cX6_letsIn 35 = .ok (.iconst (-1), 1) := by decide +kernel
theorem dX6_letsIn_36 : decode cX6_letsIn 36 = .ok (.istore 4, 2) := by decide +kernel
theorem dX6_letsIn_38 : decode cX6_letsIn 38 = .ok (.aload_n 0, 1) := by decide +kernel
theorem dX6_letsIn_39 : decode cX6_letsIn 39 = .ok (.getfield 78, 3) := by decide +kernel
theorem dX6_letsIn_42 : decode cX6_letsIn 42 = .ok (.istore 5, 2) := by decide +kernel
theorem dX6_letsIn_44 : decode cX6_letsIn 44 = .ok (.iconst 1, 1) := by decide +kernel
theorem dX6_letsIn_45 : decode cX6_letsIn 45 = .ok (.istore 6, 2) := by decide +kernel
theorem dX6_letsIn_47 : decode cX6_letsIn 47 = .ok (.iload 6, 2) := by decide +kernel
theorem dX6_letsIn_49 : decode cX6_letsIn 49 = .ok (.iload 5, 2) := by decide +kernel
theorem dX6_letsIn_51 : decode cX6_letsIn 51 = .ok (.if_icmp .gt 42, 3) := by decide +kernel
theorem dX6_letsIn_54 : decode cX6_letsIn 54 = .ok (.aload_n 0, 1) := by decide +kernel
theorem dX6_letsIn_55 : decode cX6_letsIn 55 = .ok (.iload_n 1, 1) := by decide +kernel
theorem dX6_letsIn_56 : decode cX6_letsIn 56 = .ok (.iload 6, 2) := by decide +kernel
theorem dX6_letsIn_58 : decode cX6_letsIn 58 = .ok (.invokevirtual 275, 3) := by decide +kernel
theorem dX6_letsIn_61 : decode cX6_letsIn 61 = .ok (.aload_n 0, 1) := by decide +kernel
theorem dX6_letsIn_62 : decode cX6_letsIn 62 = .ok (.invokevirtual 262, 3) := by decide +kernel
theorem dX6_letsIn_65 : decode cX6_letsIn 65 = .ok (.istore 7, 2) := by decide +kernel
theorem dX6_letsIn_67 : decode cX6_letsIn 67 = .ok (.aload_n 0, 1) := by decide +kernel
theorem dX6_letsIn_68 : decode cX6_letsIn 68 = .ok (.iload 6, 2) := by decide +kernel
theorem dX6_letsIn_70 : decode cX6_letsIn 70 = .ok (.invokevirtual 271, 3) := by decide +kernel
theorem dX6_letsIn_73 : decode cX6_letsIn 73 = .ok (.iload 7, 2) := by decide +kernel
theorem dX6_letsIn_75 : decode cX6_letsIn 75 = .ok (.iload 4, 2) := by decide +kernel
theorem dX6_letsIn_77 : decode cX6_letsIn 77 = .ok (.if_icmp .le 10, 3) := by decide +kernel
theorem dX6_letsIn_80 : decode cX6_letsIn 80 = .ok (.iload 6, 2) := by decide +kernel
theorem dX6_letsIn_82 : decode cX6_letsIn 82 = .ok (.istore_n 3, 1) := by decide +kernel
theorem dX6_letsIn_83 : decode cX6_letsIn 83 = .ok (.iload 7, 2) := by decide +kernel
theorem dX6_letsIn_85 : decode cX6_letsIn 85 = .ok (.istore 4, 2) := by decide +kernel
theorem dX6_letsIn_87 : decode cX6_letsIn 87 = .ok (.iinc 6 1, 3) := by decide +kernel
theorem dX6_letsIn_90 : decode cX6_letsIn 90 = .ok (.goto (-43), 3) := by decide +kernel
theorem dX6_letsIn_93 : decode cX6_letsIn 93 = .ok (.iload_n 2, 1) := by decide +kernel
theorem dX6_letsIn_94 : decode cX6_letsIn 94 = .ok (.ifCond .ne 7, 3) := by decide +kernel
theorem dX6_letsIn_97 : decode cX6_letsIn 97 = .ok (.iload_n 3, 1) := by decide +kernel
theorem dX6_letsIn_98 : decode cX6_letsIn 98 = .ok (.goto 5, 3) := by decide +kernel
theorem dX6_letsIn_101 : decode cX6_letsIn 101 = .ok (.iload 4, 2) := by decide +kernel
theorem dX6_letsIn_103 : decode cX6_letsIn 103 = .ok (.ireturn, 1) := by decide +kernel
theorem dX6_shutBy_0 : decode cX6_shutBy 0 = .ok (.iload_n 1, 1) := by decide +kernel
theorem dX6_shutBy_1 : decode cX6_shutBy 1 = .ok (.ifCond .ne 16, 3) := by decide +kernel
theorem dX6_shutBy_4 : decode cX6_shutBy 4 = .ok (.aload_n 0, 1) := by decide +kernel
theorem dX6_shutBy_5 : decode cX6_shutBy 5 = .ok (.invokevirtual 265, 3) := by decide +kernel
theorem dX6_shutBy_8 : decode cX6_shutBy 8 = .ok (.ifCond .ne 7, 3) := by decide +kernel
theorem dX6_shutBy_11 : decode cX6_shutBy 11 = .ok (.iconst 1, 1) := by decide +kernel
theorem dX6_shutBy_12 : decode cX6_shutBy 12 = .ok (.goto 4, 3) := by decide +kernel
theorem dX6_shutBy_15 : decode cX6_shutBy 15 = .ok (.iconst 0, 1) := by decide +kernel
theorem dX6_shutBy_16 : decode cX6_shutBy 16 = .ok (.ireturn, 1) := by decide +kernel
theorem dX6_shutBy_17 : decode cX6_shutBy 17 = .ok (.iconst 0, 1) := by decide +kernel
theorem dX6_shutBy_18 : decode cX6_shutBy 18 = .ok (.istore_n 2, 1) := by decide +kernel
theorem dX6_shutBy_19 : decode cX6_shutBy 19 = .ok (.iconst 0, 1) := by decide +kernel
theorem dX6_shutBy_20 : decode cX6_shutBy 20 = .ok (.istore_n 3, 1) := by decide +kernel
theorem dX6_shutBy_21 : decode cX6_shutBy 21 = .ok (.iload_n 3, 1) := by decide +kernel
theorem dX6_shutBy_22 : decode cX6_shutBy 22 = .ok (.aload_n 0, 1) := by decide +kernel
theorem dX6_shutBy_23 : decode cX6_shutBy 23 = .ok (.getfield 78, 3) := by decide +kernel
theorem dX6_shutBy_26 : decode cX6_shutBy 26 = .ok (.aload_n 0, 1) := by decide +kernel
theorem dX6_shutBy_27 : decode cX6_shutBy 27 = .ok (.getfield 78, 3) := by decide +kernel
theorem dX6_shutBy_30 : decode cX6_shutBy 30 = .ok (.imul, 1) := by decide +kernel
theorem dX6_shutBy_31 : decode cX6_shutBy 31 = .ok (.if_icmp .ge 68, 3) := by decide +kernel
theorem dX6_shutBy_34 : decode cX6_shutBy 34 = .ok (.iload_n 2, 1) := by decide +kernel
theorem dX6_shutBy_35 : decode cX6_shutBy 35 = .ok (.ifCond .ne 64, 3) := by decide +kernel
theorem dX6_shutBy_38 : decode cX6_shutBy 38 = .ok (.iload_n 3, 1) := by decide +kernel
theorem dX6_shutBy_39 : decode cX6_shutBy 39 = .ok (.aload_n 0, 1) := by decide +kernel
theorem dX6_shutBy_40 : decode cX6_shutBy 40 = .ok (.getfield 78, 3) := by decide +kernel
theorem dX6_shutBy_43 : decode cX6_shutBy 43 = .ok (.idiv, 1) := by decide +kernel
theorem dX6_shutBy_44 : decode cX6_shutBy 44 = .ok (.iload_n 3, 1) := by decide +kernel
theorem dX6_shutBy_45 : decode cX6_shutBy 45 = .ok (.aload_n 0, 1) := by decide +kernel
theorem dX6_shutBy_46 : decode cX6_shutBy 46 = .ok (.getfield 78, 3) := by decide +kernel
theorem dX6_shutBy_49 : decode cX6_shutBy 49 = .ok (.irem, 1) := by decide +kernel
theorem dX6_shutBy_50 : decode cX6_shutBy 50 = .ok (.if_icmp .ge 43, 3) := by decide +kernel
theorem dX6_shutBy_53 : decode cX6_shutBy 53 = .ok (.aload_n 0, 1) := by decide +kernel
theorem dX6_shutBy_54 : decode cX6_shutBy 54 = .ok (.iload_n 3, 1) := by decide +kernel
theorem dX6_shutBy_55 : decode cX6_shutBy 55 = .ok (.aload_n 0, 1) := by decide +kernel
theorem dX6_shutBy_56 : decode cX6_shutBy 56 = .ok (.getfield 78, 3) := by decide +kernel
theorem dX6_shutBy_59 : decode cX6_shutBy 59 = .ok (.idiv, 1) := by decide +kernel
theorem dX6_shutBy_60 : decode cX6_shutBy 60 = .ok (.iload_n 3, 1) := by decide +kernel
theorem dX6_shutBy_61 : decode cX6_shutBy 61 = .ok (.aload_n 0, 1) := by decide +kernel
theorem dX6_shutBy_62 : decode cX6_shutBy 62 = .ok (.getfield 78, 3) := by decide +kernel
theorem dX6_shutBy_65 : decode cX6_shutBy 65 = .ok (.irem, 1) := by decide +kernel
theorem dX6_shutBy_66 : decode cX6_shutBy 66 = .ok (.invokevirtual 279, 3) := by decide +kernel
theorem dX6_shutBy_69 : decode cX6_shutBy 69 = .ok (.aload_n 0, 1) := by decide +kernel
theorem dX6_shutBy_70 : decode cX6_shutBy 70 = .ok (.iload_n 1, 1) := by decide +kernel
theorem dX6_shutBy_71 : decode cX6_shutBy 71 = .ok (.iconst 1, 1) := by decide +kernel
theorem dX6_shutBy_72 : decode cX6_shutBy 72 = .ok (.isub, 1) := by decide +kernel
theorem dX6_shutBy_73 : decode cX6_shutBy 73 = .ok (.invokevirtual 309, 3) := by decide +kernel
theorem dX6_shutBy_76 : decode cX6_shutBy 76 = .ok (.istore_n 2, 1) := by decide +kernel
theorem dX6_shutBy_77 : decode cX6_shutBy 77 = .ok (.aload_n 0, 1) := by decide +kernel
theorem dX6_shutBy_78 : decode cX6_shutBy 78 = .ok (.iload_n 3, 1) := by decide +kernel
theorem dX6_shutBy_79 : decode cX6_shutBy 79 = .ok (.aload_n 0, 1) := by decide +kernel
theorem dX6_shutBy_80 : decode cX6_shutBy 80 = .ok (.getfield 78, 3) := by decide +kernel
theorem dX6_shutBy_83 : decode cX6_shutBy 83 = .ok (.idiv, 1) := by decide +kernel
theorem dX6_shutBy_84 : decode cX6_shutBy 84 = .ok (.iload_n 3, 1) := by decide +kernel
theorem dX6_shutBy_85 : decode cX6_shutBy 85 = .ok (.aload_n 0, 1) := by decide +kernel
