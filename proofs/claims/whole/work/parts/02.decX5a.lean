theorem dX5_init_0 : decode cX5_init 0 = .ok (.aload_n 0, 1) := by decide +kernel
theorem dX5_init_1 : decode cX5_init 1 = .ok (.invokespecial 3, 3) := by decide +kernel
theorem dX5_init_4 : decode cX5_init 4 = .ok (.new 9, 3) := by decide +kernel
theorem dX5_init_7 : decode cX5_init 7 = .ok (.dup, 1) := by decide +kernel
theorem dX5_init_8 : decode cX5_init 8 = .ok (.invokespecial 11, 3) := by decide +kernel
theorem dX5_init_11 : decode cX5_init 11 = .ok (.astore_n 1, 1) := by decide +kernel
theorem dX5_init_12 : decode cX5_init 12 = .ok (.aload_n 0, 1) := by decide +kernel
theorem dX5_init_13 : decode cX5_init 13 = .ok (.aload_n 1, 1) := by decide +kernel
theorem dX5_init_14 : decode cX5_init 14 = .ok (.putfield 12, 3) := by decide +kernel
theorem dX5_init_17 : decode cX5_init 17 = .ok (.aload_n 0, 1) := by decide +kernel
theorem dX5_init_18 : decode cX5_init 18 = .ok (.new 16, 3) := by decide +kernel
theorem dX5_init_21 : decode cX5_init 21 = .ok (.dup, 1) := by decide +kernel
theorem dX5_init_22 : decode cX5_init 22 = .ok (.aload_n 1, 1) := by decide +kernel
theorem dX5_init_23 : decode cX5_init 23 = .ok (.invokespecial 18, 3) := by decide +kernel
theorem dX5_init_26 : decode cX5_init 26 = .ok (.putfield 21, 3) := by decide +kernel
theorem dX5_init_29 : decode cX5_init 29 = .ok (.aload_n 0, 1) := by decide +kernel
theorem dX5_init_30 : decode cX5_init 30 = .ok (.new 25, 3) := by decide +kernel
theorem dX5_init_33 : decode cX5_init 33 = .ok (.dup, 1) := by decide +kernel
theorem dX5_init_34 : decode cX5_init 34 = .ok (.aload_n 1, 1) := by decide +kernel
theorem dX5_init_35 : decode cX5_init 35 = .ok (.invokespecial 27, 3) := by decide +kernel
theorem dX5_init_38 : decode cX5_init 38 = .ok (.putfield 28, 3) := by decide +kernel
theorem dX5_init_41 : decode cX5_init 41 = .ok (.aload_n 0, 1) := by decide +kernel
theorem dX5_init_42 : decode cX5_init 42 = .ok (.new 25, 3) := by decide +kernel
theorem dX5_init_45 : decode cX5_init 45 = .ok (.dup, 1) := by decide +kernel
theorem dX5_init_46 : decode cX5_init 46 = .ok (.aload_n 1, 1) := by decide +kernel
theorem dX5_init_47 : decode cX5_init 47 = .ok (.invokespecial 27, 3) := by decide +kernel
theorem dX5_init_50 : decode cX5_init 50 = .ok (.putfield 32, 3) := by decide +kernel
theorem dX5_init_53 : decode cX5_init 53 = .ok (.aload_n 0, 1) := by decide +kernel
theorem dX5_init_54 : decode cX5_init 54 = .ok (.new 25, 3) := by decide +kernel
theorem dX5_init_57 : decode cX5_init 57 = .ok (.dup, 1) := by decide +kernel
theorem dX5_init_58 : decode cX5_init 58 = .ok (.aload_n 1, 1) := by decide +kernel
theorem dX5_init_59 : decode cX5_init 59 = .ok (.invokespecial 27, 3) := by decide +kernel
theorem dX5_init_62 : decode cX5_init 62 = .ok (.putfield 35, 3) := by decide +kernel
theorem dX5_init_65 : decode cX5_init 65 = .ok (.aload_n 0, 1) := by decide +kernel
theorem dX5_init_66 : decode cX5_init 66 = .ok (.new 38, 3) := by decide +kernel
theorem dX5_init_69 : decode cX5_init 69 = .ok (.dup, 1) := by decide +kernel
theorem dX5_init_70 : decode cX5_init 70 = .ok (.invokespecial 40, 3) := by decide +kernel
theorem dX5_init_73 : decode cX5_init 73 = .ok (.putfield 41, 3) := by decide +kernel
theorem dX5_init_76 : decode cX5_init 76 = .ok (.aload_n 0, 1) := by decide +kernel
theorem dX5_init_77 : decode cX5_init 77 = .ok (.iconst 4, 1) := by decide +kernel
theorem dX5_init_78 : decode cX5_init 78 = .ok (.anewarray 45, 3) := by decide +kernel
theorem dX5_init_81 : decode cX5_init 81 = .ok (.putfield 47, 3) := by decide +kernel
theorem dX5_init_84 : decode cX5_init 84 = .ok (.iconst 0, 1) := by decide +kernel
theorem dX5_init_85 : decode cX5_init 85 = .ok (.istore_n 2, 1) := by decide +kernel
theorem dX5_init_86 : decode cX5_init 86 = .ok (.iload_n 2, 1) := by decide +kernel
theorem dX5_init_87 : decode cX5_init 87 = .ok (.iconst 4, 1) := by decide +kernel
theorem dX5_init_88 : decode cX5_init 88 = .ok (.if_icmp .ge 22, 3) := by decide +kernel
theorem dX5_init_91 : decode cX5_init 91 = .ok (.aload_n 0, 1) := by decide +kernel
theorem dX5_init_92 : decode cX5_init 92 = .ok (.getfield 47, 3) := by decide +kernel
theorem dX5_init_95 : decode cX5_init 95 = .ok (.iload_n 2, 1) := by decide +kernel
theorem dX5_init_96 : decode cX5_init 96 = .ok (.new 45, 3) := by decide +kernel
theorem dX5_init_99 : decode cX5_init 99 = .ok (.dup, 1) := by decide +kernel
theorem dX5_init_100 : decode cX5_init 100 = .ok (.invokespecial 51, 3) := by decide +kernel
theorem dX5_init_103 : decode cX5_init 103 = .ok (.aastore, 1) := by decide +kernel
theorem dX5_init_104 : decode cX5_init 104 = .ok (.iinc 2 1, 3) := by decide +kernel
theorem dX5_init_107 : decode cX5_init 107 = .ok (.goto (-21), 3) := by decide +kernel
theorem dX5_init_110 : decode cX5_init 110 = .ok (.iconst 0, 1) := by decide +kernel
theorem dX5_init_111 : decode cX5_init 111 = .ok (.istore_n 2, 1) := by decide +kernel
theorem dX5_init_112 : decode cX5_init 112 = .ok (.iload_n 2, 1) := by decide +kernel
theorem dX5_init_113 : decode cX5_init 113 = .ok (.ldc 52, 2) := by decide +kernel
theorem dX5_init_115 : decode cX5_init 115 = .ok (.invokevirtual 54, 3) := by decide +kernel
theorem dX5_init_118 : decode cX5_init 118 = .ok (.if_icmp .ge 23, 3) := by decide +kernel
theorem dX5_init_121 : decode cX5_init 121 = .ok (.aload_n 0, 1) := by decide +kernel
theorem dX5_init_122 : decode cX5_init 122 = .ok (.getfield 21, 3) := by decide +kernel
theorem dX5_init_125 : decode cX5_init 125 = .ok (.ldc 52, 2) := by decide +kernel
theorem dX5_init_127 : decode cX5_init 127 = .ok (.iload_n 2, 1) := by decide +kernel
theorem dX5_init_128 : decode cX5_init 128 = .ok (.invokevirtual 60, 3) := by decide +kernel
theorem dX5_init_131 : decode cX5_init 131 = .ok (.invokevirtual 64, 3) := by decide +kernel
theorem dX5_init_134 : decode cX5_init 134 = .ok (.pop, 1) := by decide +kernel
theorem dX5_init_135 : decode cX5_init 135 = .ok (.iinc 2 1, 3) := by decide +kernel
theorem dX5_init_138 : decode cX5_init 138 = .ok (.goto (-26), 3) := by decide +kernel
theorem dX5_init_141 : decode cX5_init 141 = .ok (.aload_n 0, 1) := by decide +kernel
theorem dX5_init_142 : decode cX5_init 142 = .ok (.getfield 21, 3) := by decide +kernel
theorem dX5_init_145 : decode cX5_init 145 = .ok (.invokevirtual 68, 3) := by decide +kernel
theorem dX5_init_148 : decode cX5_init 148 = .ok (.pop, 1) := by decide +kernel
theorem dX5_init_149 : decode cX5_init 149 = .ok (.return_, 1) := by decide +kernel
theorem dX5_set_0 : decode cX5_set 0 = .ok (.iload_n 1, 1) := by decide +kernel
theorem dX5_set_1 : decode cX5_set 1 = .ok (.ifCond .lt 20, 3) := by decide +kernel
theorem dX5_set_4 : decode cX5_set 4 = .ok (.iload_n 1, 1) := by decide +kernel
theorem dX5_set_5 : decode cX5_set 5 = .ok (.iconst 3, 1) := by decide +kernel
theorem dX5_set_6 : decode cX5_set 6 = .ok (.if_icmp .gt 15, 3) := by decide +kernel
theorem dX5_set_9 : decode cX5_set 9 = .ok (.iload_n 3, 1) := by decide +kernel
theorem dX5_set_10 : decode cX5_set 10 = .ok (.ifCond .lt 11, 3) := by decide +kernel
theorem dX5_set_13 : decode cX5_set 13 = .ok (.iload_n 3, 1) := by decide +kernel
theorem dX5_set_14 : decode cX5_set 14 = .ok (.iload_n 1, 1) := by decide +kernel
theorem dX5_set_15 : decode cX5_set 15 = .ok (.invokestatic 71, 3) := by decide +kernel
theorem dX5_set_18 : decode cX5_set 18 = .ok (.if_icmp .le 6, 3) := by decide +kernel
theorem dX5_set_21 : decode cX5_set 21 = .ok (.bipush (-2), 2) := by decide +kernel
theorem dX5_set_23 : decode cX5_set 23 = .ok (.ireturn, 1) := by decide +kernel
theorem dX5_set_24 : decode cX5_set 24 = .ok (.iload_n 1, 1) := by decide +kernel
theorem dX5_set_25 : decode cX5_set 25 = .ok (.iconst 2, 1) := by decide +kernel
theorem dX5_set_26 : decode cX5_set 26 = .ok (.if_icmp .lt 17, 3) := by decide +kernel
theorem dX5_set_29 : decode cX5_set 29 = .ok (.aload_n 0, 1) := by decide +kernel
theorem dX5_set_30 : decode cX5_set 30 = .ok (.getfield 28, 3) := by decide +kernel
theorem dX5_set_33 : decode cX5_set 33 = .ok (.iload_n 2, 1) := by decide +kernel
theorem dX5_set_34 : decode cX5_set 34 = .ok (.invokevirtual 75, 3) := by decide +kernel
theorem dX5_set_37 : decode cX5_set 37 = .ok (.ifCond .ne 6, 3) := by decide +kernel
theorem dX5_set_40 : decode cX5_set 40 = .ok (.bipush (-2), 2) := by decide +kernel
theorem dX5_set_42 : decode cX5_set 42 = .ok (.ireturn, 1) := by decide +kernel
theorem dX5_set_43 : decode cX5_set 43 = .ok (.aload_n 0, 1) := by decide +kernel
theorem dX5_set_44 : decode cX5_set 44 = .ok (.getfield 28, 3) := by decide +kernel
theorem dX5_set_47 : decode cX5_set 47 = .ok (.iload_n 1, 1) := by decide +kernel
theorem dX5_set_48 : decode cX5_set 48 = .ok (.iload_n 2, 1) := by decide +kernel
theorem dX5_set_49 : decode cX5_set 49 = .ok (.invokevirtual 78, 3) := by decide +kernel
theorem dX5_set_52 : decode cX5_set 52 = .ok (.istore 4, 2) := by decide +kernel
theorem dX5_set_54 : decode cX5_set 54 = .ok (.aload_n 0, 1) := by decide +kernel
theorem dX5_set_55 : decode cX5_set 55 = .ok (.getfield 28, 3) := by decide +kernel
theorem dX5_set_58 : decode cX5_set 58 = .ok (.iload_n 1, 1) := by decide +kernel
theorem dX5_set_59 : decode cX5_set 59 = .ok (.iload_n 2, 1) := by decide +kernel
theorem dX5_set_60 : decode cX5_set 60 = .ok (.iload_n 3, 1) := by decide +kernel
theorem dX5_set_61 : decode cX5_set 61 = .ok (.invokevirtual 82, 3) := by decide +kernel
theorem dX5_set_64 : decode cX5_set 64 = .ok (.iload 4, 2) := by decide +kernel
theorem dX5_set_66 : decode cX5_set 66 = .ok (.ireturn, 1) := by decide +kernel
theorem dX5_man_0 : decode cX5_man 0 = .ok (.aload_n 0, 1) := by decide +kernel
theorem dX5_man_1 : decode cX5_man 1 = .ok (.getfield 28, 3) := by decide +kernel
theorem dX5_man_4 : decode cX5_man 4 = .ok (.iload_n 1, 1) := by decide +kernel
theorem dX5_man_5 : decode cX5_man 5 = .ok (.iload_n 2, 1) := by decide +kernel
theorem dX5_man_6 : decode cX5_man 6 = .ok (.iload_n 3, 1) := by decide +kernel
theorem dX5_man_7 : decode cX5_man 7 = .ok (.invokevirtual 86, 3) := by decide +kernel
theorem dX5_man_10 : decode cX5_man 10 = .ok (.ireturn, 1) := by decide +kernel
theorem dX5_told_0 : decode cX5_told 0 = .ok (.iload_n 2, 1) := by decide +kernel
theorem dX5_told_1 : decode cX5_told 1 = .ok (.tableswitch 197 0 8 #[51, 51, 61, 61, 61, 88, 114, 140, 167], 51) := by decide +kernel
theorem dX5_told_52 : decode cX5_told 52 = .ok (.aload_n 0, 1) := by decide +kernel
theorem dX5_told_53 : decode cX5_told 53 = .ok (.getfield 28, 3) := by decide +kernel
theorem dX5_told_56 : decode cX5_told 56 = .ok (.iload_n 2, 1) := by decide +kernel
theorem dX5_told_57 : decode cX5_told 57 = .ok (.iload_n 1, 1) := by decide +kernel
theorem dX5_told_58 : decode cX5_told 58 = .ok (.invokevirtual 78, 3) := by decide +kernel
theorem dX5_told_61 : decode cX5_told 61 = .ok (.ireturn, 1) := by decide +kernel
theorem dX5_told_62 : decode cX5_told 62 = .ok (.aload_n 0, 1) := by decide +kernel
theorem dX5_told_63 : decode cX5_told 63 = .ok (.getfield 28, 3) := by decide +kernel
theorem dX5_told_66 : decode cX5_told 66 = .ok (.iload_n 1, 1) := by decide +kernel
theorem dX5_told_67 : decode cX5_told 67 = .ok (.invokevirtual 75, 3) := by decide +kernel
theorem dX5_told_70 : decode cX5_told 70 = .ok (.ifCond .eq 15, 3) := by decide +kernel
theorem dX5_told_73 : decode cX5_told 73 = .ok (.aload_n 0, 1) := by decide +kernel
theorem dX5_told_74 : decode cX5_told 74 = .ok (.getfield 28, 3) := by decide +kernel
theorem dX5_told_77 : decode cX5_told 77 = .ok (.iload_n 2, 1) := by decide +kernel
theorem dX5_told_78 : decode cX5_told 78 = .ok (.iload_n 1, 1) := by decide +kernel
theorem dX5_told_79 : decode cX5_told 79 = .ok (.invokevirtual 78, 3) := by decide +kernel
theorem dX5_told_82 : decode cX5_told 82 = .ok (.goto 6, 3) := by decide +kernel
theorem dX5_told_85 : decode cX5_told 85 = .ok (.sipush (-1000), 3) := by decide +kernel
theorem dX5_told_88 : decode cX5_told 88 = .ok (.ireturn, 1) := by decide +kernel
theorem dX5_told_89 : decode cX5_told 89 = .ok (.aload_n 0, 1) := by decide +kernel
theorem dX5_told_90 : decode cX5_told 90 = .ok (.getfield 28, 3) := by decide +kernel
theorem dX5_told_93 : decode cX5_told 93 = .ok (.iload_n 1, 1) := by decide +kernel
theorem dX5_told_94 : decode cX5_told 94 = .ok (.invokevirtual 75, 3) := by decide +kernel
theorem dX5_told_97 : decode cX5_told 97 = .ok (.ifCond .eq 14, 3) := by decide +kernel
theorem dX5_told_100 : decode cX5_told 100 = .ok (.aload_n 0, 1) := by decide +kernel
theorem dX5_told_101 : decode cX5_told 101 = .ok (.getfield 28, 3) := by decide +kernel
theorem dX5_told_104 : decode cX5_told 104 = .ok (.iload_n 1, 1) := by decide +kernel
theorem dX5_told_105 : decode cX5_told 105 = .ok (.invokevirtual 90, 3) := by decide +kernel
theorem dX5_told_108 : decode cX5_told 108 = .ok (.goto 6, 3) := by decide +kernel
theorem dX5_told_111 : decode cX5_told 111 = .ok (.sipush (-1000), 3) := by decide +kernel
theorem dX5_told_114 : decode cX5_told 114 = .ok (.ireturn, 1) := by decide +kernel
theorem dX5_told_115 : decode cX5_told 115 = .ok (.aload_n 0, 1) := by decide +kernel
theorem dX5_told_116 : decode cX5_told 116 = .ok (.getfield 28, 3) := by decide +kernel
theorem dX5_told_119 : decode cX5_told 119 = .ok (.iload_n 1, 1) := by decide +kernel
theorem dX5_told_120 : decode cX5_told 120 = .ok (.invokevirtual 75, 3) := by decide +kernel
theorem dX5_told_123 : decode cX5_told 123 = .ok (.ifCond .eq 14, 3) := by decide +kernel
theorem dX5_told_126 : decode cX5_told 126 = .ok (.aload_n 0, 1) := by decide +kernel
theorem dX5_told_127 : decode cX5_told 127 = .ok (.getfield 28, 3) := by decide +kernel
theorem dX5_told_130 : decode cX5_told 130 = .ok (.iload_n 1, 1) := by decide +kernel
theorem dX5_told_131 : decode cX5_told 131 = .ok (.invokevirtual 93, 3) := by decide +kernel
theorem dX5_told_134 : decode cX5_told 134 = .ok (.goto 6, 3) := by decide +kernel
theorem dX5_told_137 : decode cX5_told 137 = .ok (.sipush (-1000), 3) := by decide +kernel
theorem dX5_told_140 : decode cX5_told 140 = .ok (.ireturn, 1) := by decide +kernel
theorem dX5_told_141 : decode cX5_told 141 = .ok (.aload_n 0, 1) := by decide +kernel
theorem dX5_told_142 : decode cX5_told 142 = .ok (.getfield 28, 3) := by decide +kernel
theorem dX5_told_145 : decode cX5_told 145 = .ok (.iload_n 1, 1) := by decide +kernel
theorem dX5_told_146 : decode cX5_told 146 = .ok (.invokevirtual 96, 3) := by decide +kernel
theorem dX5_told_149 : decode cX5_told 149 = .ok (.iconst (-1), 1) := by decide +kernel
theorem dX5_told_150 : decode cX5_told 150 = .ok (.if_icmp .eq 14, 3) := by decide +kernel
theorem dX5_told_153 : decode cX5_told 153 = .ok (.aload_n 0, 1) := by decide +kernel
theorem dX5_told_154 : decode cX5_told 154 = .ok (.getfield 28, 3) := by decide +kernel
theorem dX5_told_157 : decode cX5_told 157 = .ok (.iload_n 1, 1) := by decide +kernel
theorem dX5_told_158 : decode cX5_told 158 = .ok (.invokevirtual 96, 3) := by decide +kernel
theorem dX5_told_161 : decode cX5_told 161 = .ok (.goto 6, 3) := by decide +kernel
theorem dX5_told_164 : decode cX5_told 164 = .ok (.sipush (-1000), 3) := by decide +kernel
theorem dX5_told_167 : decode cX5_told 167 = .ok (.ireturn, 1) := by decide +kernel
theorem dX5_told_168 : decode cX5_told 168 = .ok (.iload_n 1, 1) := by decide +kernel
theorem dX5_told_169 : decode cX5_told 169 = .ok (.ifCond .lt 25, 3) := by decide +kernel
theorem dX5_told_172 : decode cX5_told 172 = .ok (.iload_n 1, 1) := by decide +kernel
theorem dX5_told_173 : decode cX5_told 173 = .ok (.aload_n 0, 1) := by decide +kernel
theorem dX5_told_174 : decode cX5_told 174 = .ok (.getfield 28, 3) := by decide +kernel
theorem dX5_told_177 : decode cX5_told 177 = .ok (.invokevirtual 99, 3) := by decide +kernel
theorem dX5_told_180 : decode cX5_told 180 = .ok (.if_icmp .ge 14, 3) := by decide +kernel
theorem dX5_told_183 : decode cX5_told 183 = .ok (.aload_n 0, 1) := by decide +kernel
theorem dX5_told_184 : decode cX5_told 184 = .ok (.getfield 28, 3) := by decide +kernel
theorem dX5_told_187 : decode cX5_told 187 = .ok (.iload_n 1, 1) := by decide +kernel
theorem dX5_told_188 : decode cX5_told 188 = .ok (.invokevirtual 102, 3) := by decide +kernel
theorem dX5_told_191 : decode cX5_told 191 = .ok (.goto 6, 3) := by decide +kernel
theorem dX5_told_194 : decode cX5_told 194 = .ok (.sipush (-1000), 3) := by decide +kernel
theorem dX5_told_197 : decode cX5_told 197 = .ok (.ireturn, 1) := by decide +kernel
theorem dX5_told_198 : decode cX5_told 198 = .ok (.sipush (-1000), 3) := by decide +kernel
theorem dX5_told_201 : decode cX5_told 201 = .ok (.ireturn, 1) := by decide +kernel
theorem dX5_grips_0 : decode cX5_grips 0 = .ok (.aload_n 0, 1) := by decide +kernel
theorem dX5_grips_1 : decode cX5_grips 1 = .ok (.getfield 28, 3) := by decide +kernel
theorem dX5_grips_4 : decode cX5_grips 4 = .ok (.iload_n 1, 1) := by decide +kernel
theorem dX5_grips_5 : decode cX5_grips 5 = .ok (.invokevirtual 75, 3) := by decide +kernel
theorem dX5_grips_8 : decode cX5_grips 8 = .ok (.ifCond .eq 19, 3) := by decide +kernel
theorem dX5_grips_11 : decode cX5_grips 11 = .ok (.aload_n 0, 1) := by decide +kernel
theorem dX5_grips_12 : decode cX5_grips 12 = .ok (.getfield 28, 3) := by decide +kernel
theorem dX5_grips_15 : decode cX5_grips 15 = .ok (.iload_n 2, 1) := by decide +kernel
theorem dX5_grips_16 : decode cX5_grips 16 = .ok (.invokevirtual 75, 3) := by decide +kernel
theorem dX5_grips_19 : decode cX5_grips 19 = .ok (.ifCond .eq 8, 3) := by decide +kernel
theorem dX5_grips_22 : decode cX5_grips 22 = .ok (.iload_n 1, 1) := by decide +kernel
theorem dX5_grips_23 : decode cX5_grips 23 = .ok (.iload_n 2, 1) := by decide +kernel
theorem dX5_grips_24 : decode cX5_grips 24 = .ok (.if_icmp .ne 6, 3) := by decide +kernel
theorem dX5_grips_27 : decode cX5_grips 27 = .ok (.bipush (-2), 2) := by decide +kernel
theorem dX5_grips_29 : decode cX5_grips 29 = .ok (.ireturn, 1) := by decide +kernel
theorem dX5_grips_30 : decode cX5_grips 30 = .ok (.aload_n 0, 1) := by decide +kernel
theorem dX5_grips_31 : decode cX5_grips 31 = .ok (.getfield 28, 3) := by decide +kernel
theorem dX5_grips_34 : decode cX5_grips 34 = .ok (.iload_n 1, 1) := by decide +kernel
theorem dX5_grips_35 : decode cX5_grips 35 = .ok (.iload_n 2, 1) := by decide +kernel
theorem dX5_grips_36 : decode cX5_grips 36 = .ok (.invokevirtual 105, 3) := by decide +kernel
theorem dX5_grips_39 : decode cX5_grips 39 = .ok (.ireturn, 1) := by decide +kernel
theorem dX5_hands_0 : decode cX5_hands 0 = .ok (.aload_n 0, 1) := by decide +kernel
theorem dX5_hands_1 : decode cX5_hands 1 = .ok (.getfield 28, 3) := by decide +kernel
theorem dX5_hands_4 : decode cX5_hands 4 = .ok (.iload_n 1, 1) := by decide +kernel
theorem dX5_hands_5 : decode cX5_hands 5 = .ok (.invokevirtual 75, 3) := by decide +kernel
theorem dX5_hands_8 : decode cX5_hands 8 = .ok (.ifCond .eq 13, 3) := by decide +kernel
theorem dX5_hands_11 : decode cX5_hands 11 = .ok (.iload_n 2, 1) := by decide +kernel
theorem dX5_hands_12 : decode cX5_hands 12 = .ok (.ifCond .lt 9, 3) := by decide +kernel
theorem dX5_hands_15 : decode cX5_hands 15 = .ok (.iload_n 2, 1) := by decide +kernel
theorem dX5_hands_16 : decode cX5_hands 16 = .ok (.bipush 99, 2) := by decide +kernel
theorem dX5_hands_18 : decode cX5_hands 18 = .ok (.if_icmp .le 6, 3) := by decide +kernel
theorem dX5_hands_21 : decode cX5_hands 21 = .ok (.bipush (-2), 2) := by decide +kernel
theorem dX5_hands_23 : decode cX5_hands 23 = .ok (.ireturn, 1) := by decide +kernel
theorem dX5_hands_24 : decode cX5_hands 24 = .ok (.aload_n 0, 1) := by decide +kernel
theorem dX5_hands_25 : decode cX5_hands 25 = .ok (.getfield 28, 3) := by decide +kernel
theorem dX5_hands_28 : decode cX5_hands 28 = .ok (.iload_n 1, 1) := by decide +kernel
theorem dX5_hands_29 : decode cX5_hands 29 = .ok (.iload_n 2, 1) := by decide +kernel
theorem dX5_hands_30 : decode cX5_hands 30 = .ok (.invokevirtual 108, 3) := by decide +kernel
theorem dX5_hands_33 : decode cX5_hands 33 = .ok (.ireturn, 1) := by decide +kernel
theorem dX5_feed_0 : decode cX5_feed 0 = .ok (.iload_n 1, 1) := by decide +kernel
theorem dX5_feed_1 : decode cX5_feed 1 = .ok (.ifCond .lt 10, 3) := by decide +kernel
theorem dX5_feed_4 : decode cX5_feed 4 = .ok (.iload_n 1, 1) := by decide +kernel
theorem dX5_feed_5 : decode cX5_feed 5 = .ok (.sipush 255, 3) := by decide +kernel
theorem dX5_feed_8 : decode cX5_feed 8 = .ok (.if_icmp .le 6, 3) := by decide +kernel
theorem dX5_feed_11 : decode cX5_feed 11 = .ok (.bipush (-2), 2) := by decide +kernel
theorem dX5_feed_13 : decode cX5_feed 13 = .ok (.ireturn, 1) := by decide +kernel
theorem dX5_feed_14 : decode cX5_feed 14 = .ok (.aload_n 0, 1) := by decide +kernel
theorem dX5_feed_15 : decode cX5_feed 15 = .ok (.getfield 21, 3) := by decide +kernel
theorem dX5_feed_18 : decode cX5_feed 18 = .ok (.iload_n 1, 1) := by decide +kernel
theorem dX5_feed_19 : decode cX5_feed 19 = .ok (.invokevirtual 64, 3) := by decide +kernel
theorem dX5_feed_22 : decode cX5_feed 22 = .ok (.ifCond .eq 13, 3) := by decide +kernel
theorem dX5_feed_25 : decode cX5_feed 25 = .ok (.aload_n 0, 1) := by decide +kernel
theorem dX5_feed_26 : decode cX5_feed 26 = .ok (.getfield 21, 3) := by decide +kernel
theorem dX5_feed_29 : decode cX5_feed 29 = .ok (.getfield 111, 3) := by decide +kernel
theorem dX5_feed_32 : decode cX5_feed 32 = .ok (.goto 5, 3) := by decide +kernel
theorem dX5_feed_35 : decode cX5_feed 35 = .ok (.bipush (-4), 2) := by decide +kernel
theorem dX5_feed_37 : decode cX5_feed 37 = .ok (.ireturn, 1) := by decide +kernel
theorem dX5_text_0 : decode cX5_text 0 = .ok (.aload_n 0, 1) := by decide +kernel
theorem dX5_text_1 : decode cX5_text 1 = .ok (.getfield 12, 3) := by decide +kernel
theorem dX5_text_4 : decode cX5_text 4 = .ok (.getfield 115, 3) := by decide +kernel
theorem dX5_text_7 : decode cX5_text 7 = .ok (.bipush 6, 2) := by decide +kernel
theorem dX5_text_9 : decode cX5_text 9 = .ok (.if_icmp .lt 6, 3) := by decide +kernel
theorem dX5_text_12 : decode cX5_text 12 = .ok (.bipush (-4), 2) := by decide +kernel
theorem dX5_text_14 : decode cX5_text 14 = .ok (.ireturn, 1) := by decide +kernel
theorem dX5_text_15 : decode cX5_text 15 = .ok (.aload_n 0, 1) := by decide +kernel
theorem dX5_text_16 : decode cX5_text 16 = .ok (.getfield 21, 3) := by decide +kernel
theorem dX5_text_19 : decode cX5_text 19 = .ok (.invokevirtual 68, 3) := by decide +kernel
theorem dX5_text_22 : decode cX5_text 22 = .ok (.istore_n 1, 1) := by decide +kernel
theorem dX5_text_23 : decode cX5_text 23 = .ok (.iload_n 1, 1) := by decide +kernel
theorem dX5_text_24 : decode cX5_text 24 = .ok (.iconst (-1), 1) := by decide +kernel
theorem dX5_text_25 : decode cX5_text 25 = .ok (.if_icmp .ne 15, 3) := by decide +kernel
theorem dX5_text_28 : decode cX5_text 28 = .ok (.aload_n 0, 1) := by decide +kernel
theorem dX5_text_29 : decode cX5_text 29 = .ok (.getfield 12, 3) := by decide +kernel
theorem dX5_text_32 : decode cX5_text 32 = .ok (.getfield 115, 3) := by decide +kernel
theorem dX5_text_35 : decode cX5_text 35 = .ok (.iconst 1, 1) := by decide +kernel
theorem dX5_text_36 : decode cX5_text 36 = .ok (.isub, 1) := by decide +kernel
theorem dX5_text_37 : decode cX5_text 37 = .ok (.goto 7, 3) := by decide +kernel
theorem dX5_text_40 : decode cX5_text 40 = .ok (.bipush (-100), 2) := by decide +kernel
theorem dX5_text_42 : decode cX5_text 42 = .ok (.iload_n 1, 1) := by decide +kernel
theorem dX5_text_43 : decode cX5_text 43 = .ok (.isub, 1) := by decide +kernel
theorem dX5_text_44 : decode cX5_text 44 = .ok (.ireturn, 1) := by decide +kernel
theorem dX5_force_0 : decode cX5_force 0 = .ok (.iload_n 1, 1) := by decide +kernel
theorem dX5_force_1 : decode cX5_force 1 = .ok (.ifCond .lt 14, 3) := by decide +kernel
theorem dX5_force_4 : decode cX5_force 4 = .ok (.iload_n 1, 1) := by decide +kernel
theorem dX5_force_5 : decode cX5_force 5 = .ok (.aload_n 0, 1) := by decide +kernel
theorem dX5_force_6 : decode cX5_force 6 = .ok (.getfield 12, 3) := by decide +kernel
theorem dX5_force_9 : decode cX5_force 9 = .ok (.getfield 115, 3) := by decide +kernel
theorem dX5_force_12 : decode cX5_force 12 = .ok (.if_icmp .lt 6, 3) := by decide +kernel
theorem dX5_force_15 : decode cX5_force 15 = .ok (.bipush (-2), 2) := by decide +kernel
theorem dX5_force_17 : decode cX5_force 17 = .ok (.ireturn, 1) := by decide +kernel
theorem dX5_force_18 : decode cX5_force 18 = .ok (.aload_n 0, 1) := by decide +kernel
theorem dX5_force_19 : decode cX5_force 19 = .ok (.getfield 28, 3) := by decide +kernel
theorem dX5_force_22 : decode cX5_force 22 = .ok (.getfield 118, 3) := by decide +kernel
theorem dX5_force_25 : decode cX5_force 25 = .ok (.istore_n 2, 1) := by decide +kernel
theorem dX5_force_26 : decode cX5_force 26 = .ok (.aload_n 0, 1) := by decide +kernel
theorem dX5_force_27 : decode cX5_force 27 = .ok (.getfield 28, 3) := by decide +kernel
theorem dX5_force_30 : decode cX5_force 30 = .ok (.iload_n 1, 1) := by decide +kernel
theorem dX5_force_31 : decode cX5_force 31 = .ok (.putfield 118, 3) := by decide +kernel
theorem dX5_force_34 : decode cX5_force 34 = .ok (.iload_n 2, 1) := by decide +kernel
theorem dX5_force_35 : decode cX5_force 35 = .ok (.ireturn, 1) := by decide +kernel
theorem dX5_out_0 : decode cX5_out 0 = .ok (.aload_n 0, 1) := by decide +kernel
theorem dX5_out_1 : decode cX5_out 1 = .ok (.getfield 28, 3) := by decide +kernel
theorem dX5_out_4 : decode cX5_out 4 = .ok (.iload_n 1, 1) := by decide +kernel
theorem dX5_out_5 : decode cX5_out 5 = .ok (.invokevirtual 75, 3) := by decide +kernel
theorem dX5_out_8 : decode cX5_out 8 = .ok (.ifCond .ne 6, 3) := by decide +kernel
theorem dX5_out_11 : decode cX5_out 11 = .ok (.bipush (-2), 2) := by decide +kernel
theorem dX5_out_13 : decode cX5_out 13 = .ok (.ireturn, 1) := by decide +kernel
theorem dX5_out_14 : decode cX5_out 14 = .ok (.aload_n 0, 1) := by decide +kernel
theorem dX5_out_15 : decode cX5_out 15 = .ok (.getfield 28, 3) := by decide +kernel
theorem dX5_out_18 : decode cX5_out 18 = .ok (.iload_n 1, 1) := by decide +kernel
theorem dX5_out_19 : decode cX5_out 19 = .ok (.invokevirtual 90, 3) := by decide +kernel
theorem dX5_out_22 : decode cX5_out 22 = .ok (.istore_n 2, 1) := by decide +kernel
theorem dX5_out_23 : decode cX5_out 23 = .ok (.iload_n 2, 1) := by decide +kernel
theorem dX5_out_24 : decode cX5_out 24 = .ok (.iconst (-1), 1) := by decide +kernel
theorem dX5_out_25 : decode cX5_out 25 = .ok (.if_icmp .ne 6, 3) := by decide +kernel
theorem dX5_out_28 : decode cX5_out 28 = .ok (.bipush (-3), 2) := by decide +kernel
theorem dX5_out_30 : decode cX5_out 30 = .ok (.ireturn, 1) := by decide +kernel
theorem dX5_out_31 : decode cX5_out 31 = .ok (.aload_n 0, 1) := by decide +kernel
theorem dX5_out_32 : decode cX5_out 32 = .ok (.getfield 28, 3) := by decide +kernel
theorem dX5_out_35 : decode cX5_out 35 = .ok (.iload_n 2, 1) := by decide +kernel
theorem dX5_out_36 : decode cX5_out 36 = .ok (.invokevirtual 121, 3) := by decide +kernel
theorem dX5_out_39 : decode cX5_out 39 = .ok (.iload_n 2, 1) := by decide +kernel
theorem dX5_out_40 : decode cX5_out 40 = .ok (.ireturn, 1) := by decide +kernel
theorem dX5_into_0 : decode cX5_into 0 = .ok (.aload_n 0, 1) := by decide +kernel
theorem dX5_into_1 : decode cX5_into 1 = .ok (.getfield 28, 3) := by decide +kernel
theorem dX5_into_4 : decode cX5_into 4 = .ok (.iload_n 1, 1) := by decide +kernel
theorem dX5_into_5 : decode cX5_into 5 = .ok (.invokevirtual 75, 3) := by decide +kernel
theorem dX5_into_8 : decode cX5_into 8 = .ok (.ifCond .eq 18, 3) := by decide +kernel
theorem dX5_into_11 : decode cX5_into 11 = .ok (.iload_n 2, 1) := by decide +kernel
theorem dX5_into_12 : decode cX5_into 12 = .ok (.ifCond .lt 14, 3) := by decide +kernel
theorem dX5_into_15 : decode cX5_into 15 = .ok (.iload_n 2, 1) := by decide +kernel
theorem dX5_into_16 : decode cX5_into 16 = .ok (.aload_n 0, 1) := by decide +kernel
theorem dX5_into_17 : decode cX5_into 17 = .ok (.getfield 28, 3) := by decide +kernel
theorem dX5_into_20 : decode cX5_into 20 = .ok (.getfield 125, 3) := by decide +kernel
theorem dX5_into_23 : decode cX5_into 23 = .ok (.if_icmp .le 6, 3) := by decide +kernel
theorem dX5_into_26 : decode cX5_into 26 = .ok (.bipush (-2), 2) := by decide +kernel
theorem dX5_into_28 : decode cX5_into 28 = .ok (.ireturn, 1) := by decide +kernel
theorem dX5_into_29 : decode cX5_into 29 = .ok (.aload_n 0, 1) := by decide +kernel
theorem dX5_into_30 : decode cX5_into 30 = .ok (.getfield 28, 3) := by decide +kernel
theorem dX5_into_33 : decode cX5_into 33 = .ok (.iload_n 1, 1) := by decide +kernel
theorem dX5_into_34 : decode cX5_into 34 = .ok (.invokevirtual 90, 3) := by decide +kernel
theorem dX5_into_37 : decode cX5_into 37 = .ok (.iconst (-1), 1) := by decide +kernel
theorem dX5_into_38 : decode cX5_into 38 = .ok (.if_icmp .eq 6, 3) := by decide +kernel
theorem dX5_into_41 : decode cX5_into 41 = .ok (.bipush (-3), 2) := by decide +kernel
theorem dX5_into_43 : decode cX5_into 43 = .ok (.ireturn, 1) := by decide +kernel
theorem dX5_into_44 : decode cX5_into 44 = .ok (.aload_n 0, 1) := by decide +kernel
theorem dX5_into_45 : decode cX5_into 45 = .ok (.getfield 28, 3) := by decide +kernel
theorem dX5_into_48 : decode cX5_into 48 = .ok (.iload_n 1, 1) := by decide +kernel
theorem dX5_into_49 : decode cX5_into 49 = .ok (.iload_n 2, 1) := by decide +kernel
theorem dX5_into_50 : decode cX5_into 50 = .ok (.invokevirtual 128, 3) := by decide +kernel
theorem dX5_into_53 : decode cX5_into 53 = .ok (.aload_n 0, 1) := by decide +kernel
theorem dX5_into_54 : decode cX5_into 54 = .ok (.getfield 28, 3) := by decide +kernel
theorem dX5_into_57 : decode cX5_into 57 = .ok (.getfield 125, 3) := by decide +kernel
theorem dX5_into_60 : decode cX5_into 60 = .ok (.ireturn, 1) := by decide +kernel
theorem dX5_swap_0 : decode cX5_swap 0 = .ok (.aload_n 0, 1) := by decide +kernel
theorem dX5_swap_1 : decode cX5_swap 1 = .ok (.getfield 28, 3) := by decide +kernel
theorem dX5_swap_4 : decode cX5_swap 4 = .ok (.iload_n 1, 1) := by decide +kernel
theorem dX5_swap_5 : decode cX5_swap 5 = .ok (.invokevirtual 90, 3) := by decide +kernel
theorem dX5_swap_8 : decode cX5_swap 8 = .ok (.istore_n 3, 1) := by decide +kernel
theorem dX5_swap_9 : decode cX5_swap 9 = .ok (.aload_n 0, 1) := by decide +kernel
theorem dX5_swap_10 : decode cX5_swap 10 = .ok (.getfield 28, 3) := by decide +kernel
theorem dX5_swap_13 : decode cX5_swap 13 = .ok (.iload_n 2, 1) := by decide +kernel
theorem dX5_swap_14 : decode cX5_swap 14 = .ok (.invokevirtual 90, 3) := by decide +kernel
theorem dX5_swap_17 : decode cX5_swap 17 = .ok (.istore 4, 2) := by decide +kernel
theorem dX5_swap_19 : decode cX5_swap 19 = .ok (.iload_n 1, 1) := by decide +kernel
theorem dX5_swap_20 : decode cX5_swap 20 = .ok (.iload_n 2, 1) := by decide +kernel
theorem dX5_swap_21 : decode cX5_swap 21 = .ok (.if_icmp .eq 14, 3) := by decide +kernel
theorem dX5_swap_24 : decode cX5_swap 24 = .ok (.iload_n 3, 1) := by decide +kernel
theorem dX5_swap_25 : decode cX5_swap 25 = .ok (.iconst (-1), 1) := by decide +kernel
theorem dX5_swap_26 : decode cX5_swap 26 = .ok (.if_icmp .eq 9, 3) := by decide +kernel
theorem dX5_swap_29 : decode cX5_swap 29 = .ok (.iload 4, 2) := by decide +kernel
theorem dX5_swap_31 : decode cX5_swap 31 = .ok (.iconst (-1), 1) := by decide +kernel
theorem dX5_swap_32 : decode cX5_swap 32 = .ok (.if_icmp .ne 6, 3) := by decide +kernel
theorem dX5_swap_35 : decode cX5_swap 35 = .ok (.bipush (-2), 2) := by decide +kernel
theorem dX5_swap_37 : decode cX5_swap 37 = .ok (.ireturn, 1) := by decide +kernel
theorem dX5_swap_38 : decode cX5_swap 38 = .ok (.aload_n 0, 1) := by decide +kernel
theorem dX5_swap_39 : decode cX5_swap 39 = .ok (.getfield 28, 3) := by decide +kernel
theorem dX5_swap_42 : decode cX5_swap 42 = .ok (.iload_n 3, 1) := by decide +kernel
theorem dX5_swap_43 : decode cX5_swap 43 = .ok (.iload 4, 2) := by decide +kernel
theorem dX5_swap_45 : decode cX5_swap 45 = .ok (.invokevirtual 132, 3) := by decide +kernel
theorem dX5_swap_48 : decode cX5_swap 48 = .ok (.aload_n 0, 1) := by decide +kernel
theorem dX5_swap_49 : decode cX5_swap 49 = .ok (.getfield 28, 3) := by decide +kernel
theorem dX5_swap_52 : decode cX5_swap 52 = .ok (.invokevirtual 135, 3) := by decide +kernel
theorem dX5_swap_55 : decode cX5_swap 55 = .ok (.ireturn, 1) := by decide +kernel
theorem dX5_hour_0 : decode cX5_hour 0 = .ok (.aload_n 0, 1) := by decide +kernel
theorem dX5_hour_1 : decode cX5_hour 1 = .ok (.getfield 28, 3) := by decide +kernel
theorem dX5_hour_4 : decode cX5_hour 4 = .ok (.getfield 138, 3) := by decide +kernel
theorem dX5_hour_7 : decode cX5_hour 7 = .ok (.sipush 999, 3) := by decide +kernel
theorem dX5_hour_10 : decode cX5_hour 10 = .ok (.if_icmp .lt 6, 3) := by decide +kernel
theorem dX5_hour_13 : decode cX5_hour 13 = .ok (.bipush (-3), 2) := by decide +kernel
theorem dX5_hour_15 : decode cX5_hour 15 = .ok (.ireturn, 1) := by decide +kernel
theorem dX5_hour_16 : decode cX5_hour 16 = .ok (.aload_n 0, 1) := by decide +kernel
theorem dX5_hour_17 : decode cX5_hour 17 = .ok (.getfield 28, 3) := by decide +kernel
theorem dX5_hour_20 : decode cX5_hour 20 = .ok (.invokevirtual 141, 3) := by decide +kernel
theorem dX5_hour_23 : decode cX5_hour 23 = .ok (.aload_n 0, 1) := by decide +kernel
theorem dX5_hour_24 : decode cX5_hour 24 = .ok (.getfield 28, 3) := by decide +kernel
theorem dX5_hour_27 : decode cX5_hour 27 = .ok (.invokevirtual 135, 3) := by decide +kernel
theorem dX5_hour_30 : decode cX5_hour 30 = .ok (.ireturn, 1) := by decide +kernel
theorem dX5_wall_0 : decode cX5_wall 0 = .ok (.iload_n 1, 1) := by decide +kernel
theorem dX5_wall_1 : decode cX5_wall 1 = .ok (.tableswitch 63 0 3 #[31, 39, 47, 55], 31) := by decide +kernel
theorem dX5_wall_32 : decode cX5_wall 32 = .ok (.aload_n 0, 1) := by decide +kernel
theorem dX5_wall_33 : decode cX5_wall 33 = .ok (.getfield 28, 3) := by decide +kernel
theorem dX5_wall_36 : decode cX5_wall 36 = .ok (.invokevirtual 135, 3) := by decide +kernel
theorem dX5_wall_39 : decode cX5_wall 39 = .ok (.ireturn, 1) := by decide +kernel
theorem dX5_wall_40 : decode cX5_wall 40 = .ok (.aload_n 0, 1) := by decide +kernel
theorem dX5_wall_41 : decode cX5_wall 41 = .ok (.getfield 28, 3) := by decide +kernel
theorem dX5_wall_44 : decode cX5_wall 44 = .ok (.invokevirtual 144, 3) := by decide +kernel
theorem dX5_wall_47 : decode cX5_wall 47 = .ok (.ireturn, 1) := by decide +kernel
theorem dX5_wall_48 : decode cX5_wall 48 = .ok (.aload_n 0, 1) := by decide +kernel
theorem dX5_wall_49 : decode cX5_wall 49 = .ok (.getfield 28, 3) := by decide +kernel
theorem dX5_wall_52 : decode cX5_wall 52 = .ok (.invokevirtual 147, 3) := by decide +kernel
theorem dX5_wall_55 : decode cX5_wall 55 = .ok (.ireturn, 1) := by decide +kernel
theorem dX5_wall_56 : decode cX5_wall 56 = .ok (.aload_n 0, 1) := by decide +kernel
theorem dX5_wall_57 : decode cX5_wall 57 = .ok (.getfield 28, 3) := by decide +kernel
theorem dX5_wall_60 : decode cX5_wall 60 = .ok (.getfield 125, 3) := by decide +kernel
theorem dX5_wall_63 : decode cX5_wall 63 = .ok (.ireturn, 1) := by decide +kernel
theorem dX5_wall_64 : decode cX5_wall 64 = .ok (.bipush (-2), 2) := by decide +kernel
theorem dX5_wall_66 : decode cX5_wall 66 = .ok (.ireturn, 1) := by decide +kernel
theorem dX5_sneeze_0 : decode cX5_sneeze 0 = .ok (.aload_n 0, 1) := by decide +kernel
theorem dX5_sneeze_1 : decode cX5_sneeze 1 = .ok (.getfield 28, 3) := by decide +kernel
theorem dX5_sneeze_4 : decode cX5_sneeze 4 = .ok (.iload_n 1, 1) := by decide +kernel
theorem dX5_sneeze_5 : decode cX5_sneeze 5 = .ok (.invokevirtual 90, 3) := by decide +kernel
theorem dX5_sneeze_8 : decode cX5_sneeze 8 = .ok (.istore 4, 2) := by decide +kernel
theorem dX5_sneeze_10 : decode cX5_sneeze 10 = .ok (.iload 4, 2) := by decide +kernel
theorem dX5_sneeze_12 : decode cX5_sneeze 12 = .ok (.iconst (-1), 1) := by decide +kernel
theorem dX5_sneeze_13 : decode cX5_sneeze 13 = .ok (.if_icmp .eq 22, 3) := by decide +kernel
theorem dX5_sneeze_16 : decode cX5_sneeze 16 = .ok (.iload_n 2, 1) := by decide +kernel
theorem dX5_sneeze_17 : decode cX5_sneeze 17 = .ok (.ifCond .lt 18, 3) := by decide +kernel
theorem dX5_sneeze_20 : decode cX5_sneeze 20 = .ok (.iload_n 2, 1) := by decide +kernel
theorem dX5_sneeze_21 : decode cX5_sneeze 21 = .ok (.bipush 99, 2) := by decide +kernel
theorem dX5_sneeze_23 : decode cX5_sneeze 23 = .ok (.if_icmp .gt 12, 3) := by decide +kernel
theorem dX5_sneeze_26 : decode cX5_sneeze 26 = .ok (.iload_n 3, 1) := by decide +kernel
theorem dX5_sneeze_27 : decode cX5_sneeze 27 = .ok (.ifCond .lt 8, 3) := by decide +kernel
theorem dX5_sneeze_30 : decode cX5_sneeze 30 = .ok (.iload_n 3, 1) := by decide +kernel
theorem dX5_sneeze_31 : decode cX5_sneeze 31 = .ok (.iconst 2, 1) := by decide +kernel
theorem dX5_sneeze_32 : decode cX5_sneeze 32 = .ok (.if_icmp .le 6, 3) := by decide +kernel
theorem dX5_sneeze_35 : decode cX5_sneeze 35 = .ok (.bipush (-2), 2) := by decide +kernel
theorem dX5_sneeze_37 : decode cX5_sneeze 37 = .ok (.ireturn, 1) := by decide +kernel
theorem dX5_sneeze_38 : decode cX5_sneeze 38 = .ok (.iconst 0, 1) := by decide +kernel
theorem dX5_sneeze_39 : decode cX5_sneeze 39 = .ok (.istore 5, 2) := by decide +kernel
theorem dX5_sneeze_41 : decode cX5_sneeze 41 = .ok (.iconst (-1), 1) := by decide +kernel
theorem dX5_sneeze_42 : decode cX5_sneeze 42 = .ok (.istore 6, 2) := by decide +kernel
theorem dX5_sneeze_44 : decode cX5_sneeze 44 = .ok (.iconst 0, 1) := by decide +kernel
theorem dX5_sneeze_45 : decode cX5_sneeze 45 = .ok (.istore 7, 2) := by decide +kernel
theorem dX5_sneeze_47 : decode cX5_sneeze 47 = .ok (.aload_n 0, 1) := by decide +kernel
theorem dX5_sneeze_48 : decode cX5_sneeze 48 = .ok (.getfield 28, 3) := by decide +kernel
theorem dX5_sneeze_51 : decode cX5_sneeze 51 = .ok (.getfield 125, 3) := by decide +kernel
theorem dX5_sneeze_54 : decode cX5_sneeze 54 = .ok (.iconst 2, 1) := by decide +kernel
theorem dX5_sneeze_55 : decode cX5_sneeze 55 = .ok (.if_icmp .ge 7, 3) := by decide +kernel
theorem dX5_sneeze_58 : decode cX5_sneeze 58 = .ok (.iconst 0, 1) := by decide +kernel
theorem dX5_sneeze_59 : decode cX5_sneeze 59 = .ok (.goto 4, 3) := by decide +kernel
theorem dX5_sneeze_62 : decode cX5_sneeze 62 = .ok (.iload_n 2, 1) := by decide +kernel
theorem dX5_sneeze_63 : decode cX5_sneeze 63 = .ok (.istore 8, 2) := by decide +kernel
theorem dX5_sneeze_65 : decode cX5_sneeze 65 = .ok (.iload 5, 2) := by decide +kernel
theorem dX5_sneeze_67 : decode cX5_sneeze 67 = .ok (.bipush 60, 2) := by decide +kernel
theorem dX5_sneeze_69 : decode cX5_sneeze 69 = .ok (.if_icmp .ge 53, 3) := by decide +kernel
theorem dX5_sneeze_72 : decode cX5_sneeze 72 = .ok (.iload 8, 2) := by decide +kernel
theorem dX5_sneeze_74 : decode cX5_sneeze 74 = .ok (.ifCond .le 48, 3) := by decide +kernel
theorem dX5_sneeze_77 : decode cX5_sneeze 77 = .ok (.aload_n 0, 1) := by decide +kernel
theorem dX5_sneeze_78 : decode cX5_sneeze 78 = .ok (.getfield 28, 3) := by decide +kernel
theorem dX5_sneeze_81 : decode cX5_sneeze 81 = .ok (.iload 4, 2) := by decide +kernel
theorem dX5_sneeze_83 : decode cX5_sneeze 83 = .ok (.invokevirtual 150, 3) := by decide +kernel
theorem dX5_sneeze_86 : decode cX5_sneeze 86 = .ok (.istore 4, 2) := by decide +kernel
theorem dX5_sneeze_88 : decode cX5_sneeze 88 = .ok (.aload_n 0, 1) := by decide +kernel
theorem dX5_sneeze_89 : decode cX5_sneeze 89 = .ok (.getfield 28, 3) := by decide +kernel
theorem dX5_sneeze_92 : decode cX5_sneeze 92 = .ok (.iload 4, 2) := by decide +kernel
theorem dX5_sneeze_94 : decode cX5_sneeze 94 = .ok (.invokevirtual 96, 3) := by decide +kernel
theorem dX5_sneeze_97 : decode cX5_sneeze 97 = .ok (.istore 6, 2) := by decide +kernel
theorem dX5_sneeze_99 : decode cX5_sneeze 99 = .ok (.iload 8, 2) := by decide +kernel
theorem dX5_sneeze_101 : decode cX5_sneeze 101 = .ok (.istore 7, 2) := by decide +kernel
theorem dX5_sneeze_103 : decode cX5_sneeze 103 = .ok (.aload_n 0, 1) := by decide +kernel
theorem dX5_sneeze_104 : decode cX5_sneeze 104 = .ok (.getfield 28, 3) := by decide +kernel
theorem dX5_sneeze_107 : decode cX5_sneeze 107 = .ok (.iload 6, 2) := by decide +kernel
theorem dX5_sneeze_109 : decode cX5_sneeze 109 = .ok (.iload 8, 2) := by decide +kernel
theorem dX5_sneeze_111 : decode cX5_sneeze 111 = .ok (.invokevirtual 108, 3) := by decide +kernel
theorem dX5_sneeze_114 : decode cX5_sneeze 114 = .ok (.istore 8, 2) := by decide +kernel
theorem dX5_sneeze_116 : decode cX5_sneeze 116 = .ok (.iinc 5 1, 3) := by decide +kernel
theorem dX5_sneeze_119 : decode cX5_sneeze 119 = .ok (.goto (-54), 3) := by decide +kernel
theorem dX5_sneeze_122 : decode cX5_sneeze 122 = .ok (.iload_n 3, 1) := by decide +kernel
theorem dX5_sneeze_123 : decode cX5_sneeze 123 = .ok (.ifCond .ne 8, 3) := by decide +kernel
theorem dX5_sneeze_126 : decode cX5_sneeze 126 = .ok (.iload 5, 2) := by decide +kernel
theorem dX5_sneeze_128 : decode cX5_sneeze 128 = .ok (.goto 15, 3) := by decide +kernel
theorem dX5_sneeze_131 : decode cX5_sneeze 131 = .ok (.iload_n 3, 1) := by decide +kernel
theorem dX5_sneeze_132 : decode cX5_sneeze 132 = .ok (.iconst 1, 1) := by decide +kernel
theorem dX5_sneeze_133 : decode cX5_sneeze 133 = .ok (.if_icmp .ne 8, 3) := by decide +kernel
theorem dX5_sneeze_136 : decode cX5_sneeze 136 = .ok (.iload 6, 2) := by decide +kernel
theorem dX5_sneeze_138 : decode cX5_sneeze 138 = .ok (.goto 5, 3) := by decide +kernel
theorem dX5_sneeze_141 : decode cX5_sneeze 141 = .ok (.iload 7, 2) := by decide +kernel
theorem dX5_sneeze_143 : decode cX5_sneeze 143 = .ok (.ireturn, 1) := by decide +kernel
theorem dX5_run_0 : decode cX5_run 0 = .ok (.iload_n 2, 1) := by decide +kernel
theorem dX5_run_1 : decode cX5_run 1 = .ok (.bipush 10, 2) := by decide +kernel
theorem dX5_run_3 : decode cX5_run 3 = .ok (.isub, 1) := by decide +kernel
theorem dX5_run_4 : decode cX5_run 4 = .ok (.istore_n 3, 1) := by decide +kernel
theorem dX5_run_5 : decode cX5_run 5 = .ok (.iload_n 2, 1) := by decide +kernel
theorem dX5_run_6 : decode cX5_run 6 = .ok (.bipush 10, 2) := by decide +kernel
theorem dX5_run_8 : decode cX5_run 8 = .ok (.if_icmp .lt 18, 3) := by decide +kernel
theorem dX5_run_11 : decode cX5_run 11 = .ok (.aload_n 0, 1) := by decide +kernel
theorem dX5_run_12 : decode cX5_run 12 = .ok (.getfield 28, 3) := by decide +kernel
theorem dX5_run_15 : decode cX5_run 15 = .ok (.iload_n 3, 1) := by decide +kernel
theorem dX5_run_16 : decode cX5_run 16 = .ok (.invokevirtual 75, 3) := by decide +kernel
theorem dX5_run_19 : decode cX5_run 19 = .ok (.ifCond .eq 7, 3) := by decide +kernel
theorem dX5_run_22 : decode cX5_run 22 = .ok (.iconst 1, 1) := by decide +kernel
theorem dX5_run_23 : decode cX5_run 23 = .ok (.goto 4, 3) := by decide +kernel
theorem dX5_run_26 : decode cX5_run 26 = .ok (.iconst 0, 1) := by decide +kernel
theorem dX5_run_27 : decode cX5_run 27 = .ok (.istore 4, 2) := by decide +kernel
theorem dX5_run_29 : decode cX5_run 29 = .ok (.iload_n 1, 1) := by decide +kernel
theorem dX5_run_30 : decode cX5_run 30 = .ok (.ifCond .lt 23, 3) := by decide +kernel
theorem dX5_run_33 : decode cX5_run 33 = .ok (.iload_n 1, 1) := by decide +kernel
theorem dX5_run_34 : decode cX5_run 34 = .ok (.bipush 40, 2) := by decide +kernel
theorem dX5_run_36 : decode cX5_run 36 = .ok (.if_icmp .gt 17, 3) := by decide +kernel
theorem dX5_run_39 : decode cX5_run 39 = .ok (.iload_n 2, 1) := by decide +kernel
theorem dX5_run_40 : decode cX5_run 40 = .ok (.ifCond .eq 17, 3) := by decide +kernel
theorem dX5_run_43 : decode cX5_run 43 = .ok (.iload_n 2, 1) := by decide +kernel
theorem dX5_run_44 : decode cX5_run 44 = .ok (.iconst 1, 1) := by decide +kernel
theorem dX5_run_45 : decode cX5_run 45 = .ok (.if_icmp .eq 12, 3) := by decide +kernel
theorem dX5_run_48 : decode cX5_run 48 = .ok (.iload 4, 2) := by decide +kernel
theorem dX5_run_50 : decode cX5_run 50 = .ok (.ifCond .ne 7, 3) := by decide +kernel
theorem dX5_run_53 : decode cX5_run 53 = .ok (.sipush (-1000), 3) := by decide +kernel
theorem dX5_run_56 : decode cX5_run 56 = .ok (.ireturn, 1) := by decide +kernel
theorem dX5_run_57 : decode cX5_run 57 = .ok (.aload_n 0, 1) := by decide +kernel
theorem dX5_run_58 : decode cX5_run 58 = .ok (.getfield 32, 3) := by decide +kernel
theorem dX5_run_61 : decode cX5_run 61 = .ok (.aload_n 0, 1) := by decide +kernel
theorem dX5_run_62 : decode cX5_run 62 = .ok (.getfield 28, 3) := by decide +kernel
theorem dX5_run_65 : decode cX5_run 65 = .ok (.invokevirtual 153, 3) := by decide +kernel
theorem dX5_run_68 : decode cX5_run 68 = .ok (.iconst 0, 1) := by decide +kernel
theorem dX5_run_69 : decode cX5_run 69 = .ok (.istore 5, 2) := by decide +kernel
theorem dX5_run_71 : decode cX5_run 71 = .ok (.iload 5, 2) := by decide +kernel
theorem dX5_run_73 : decode cX5_run 73 = .ok (.iload_n 1, 1) := by decide +kernel
theorem dX5_run_74 : decode cX5_run 74 = .ok (.if_icmp .ge 16, 3) := by decide +kernel
theorem dX5_run_77 : decode cX5_run 77 = .ok (.aload_n 0, 1) := by decide +kernel
theorem dX5_run_78 : decode cX5_run 78 = .ok (.getfield 32, 3) := by decide +kernel
theorem dX5_run_81 : decode cX5_run 81 = .ok (.invokevirtual 141, 3) := by decide +kernel
theorem dX5_run_84 : decode cX5_run 84 = .ok (.iinc 5 1, 3) := by decide +kernel
theorem dX5_run_87 : decode cX5_run 87 = .ok (.goto (-16), 3) := by decide +kernel
theorem dX5_run_90 : decode cX5_run 90 = .ok (.iload 4, 2) := by decide +kernel
theorem dX5_run_92 : decode cX5_run 92 = .ok (.ifCond .eq 13, 3) := by decide +kernel
theorem dX5_run_95 : decode cX5_run 95 = .ok (.aload_n 0, 1) := by decide +kernel
theorem dX5_run_96 : decode cX5_run 96 = .ok (.getfield 32, 3) := by decide +kernel
theorem dX5_run_99 : decode cX5_run 99 = .ok (.iconst 3, 1) := by decide +kernel
theorem dX5_run_100 : decode cX5_run 100 = .ok (.iload_n 3, 1) := by decide +kernel
theorem dX5_run_101 : decode cX5_run 101 = .ok (.invokevirtual 78, 3) := by decide +kernel
theorem dX5_run_104 : decode cX5_run 104 = .ok (.ireturn, 1) := by decide +kernel
theorem dX5_run_105 : decode cX5_run 105 = .ok (.iload_n 2, 1) := by decide +kernel
theorem dX5_run_106 : decode cX5_run 106 = .ok (.ifCond .ne 13, 3) := by decide +kernel
theorem dX5_run_109 : decode cX5_run 109 = .ok (.aload_n 0, 1) := by decide +kernel
theorem dX5_run_110 : decode cX5_run 110 = .ok (.getfield 32, 3) := by decide +kernel
theorem dX5_run_113 : decode cX5_run 113 = .ok (.invokevirtual 135, 3) := by decide +kernel
theorem dX5_run_116 : decode cX5_run 116 = .ok (.goto 10, 3) := by decide +kernel
theorem dX5_run_119 : decode cX5_run 119 = .ok (.aload_n 0, 1) := by decide +kernel
theorem dX5_run_120 : decode cX5_run 120 = .ok (.getfield 32, 3) := by decide +kernel
theorem dX5_run_123 : decode cX5_run 123 = .ok (.invokevirtual 144, 3) := by decide +kernel
theorem dX5_run_126 : decode cX5_run 126 = .ok (.ireturn, 1) := by decide +kernel
theorem dX5_opens_0 : decode cX5_opens 0 = .ok (.aload_n 0, 1) := by decide +kernel
theorem dX5_opens_1 : decode cX5_opens 1 = .ok (.getfield 32, 3) := by decide +kernel
theorem dX5_opens_4 : decode cX5_opens 4 = .ok (.aload_n 0, 1) := by decide +kernel
theorem dX5_opens_5 : decode cX5_opens 5 = .ok (.getfield 28, 3) := by decide +kernel
theorem dX5_opens_8 : decode cX5_opens 8 = .ok (.invokevirtual 153, 3) := by decide +kernel
theorem dX5_opens_11 : decode cX5_opens 11 = .ok (.iconst 0, 1) := by decide +kernel
theorem dX5_opens_12 : decode cX5_opens 12 = .ok (.istore_n 1, 1) := by decide +kernel
theorem dX5_opens_13 : decode cX5_opens 13 = .ok (.iload_n 1, 1) := by decide +kernel
theorem dX5_opens_14 : decode cX5_opens 14 = .ok (.bipush 60, 2) := by decide +kernel
theorem dX5_opens_16 : decode cX5_opens 16 = .ok (.if_icmp .gt 29, 3) := by decide +kernel
theorem dX5_opens_19 : decode cX5_opens 19 = .ok (.aload_n 0, 1) := by decide +kernel
theorem dX5_opens_20 : decode cX5_opens 20 = .ok (.getfield 32, 3) := by decide +kernel
theorem dX5_opens_23 : decode cX5_opens 23 = .ok (.invokevirtual 147, 3) := by decide +kernel
theorem dX5_opens_26 : decode cX5_opens 26 = .ok (.iconst (-1), 1) := by decide +kernel
theorem dX5_opens_27 : decode cX5_opens 27 = .ok (.if_icmp .eq 5, 3) := by decide +kernel
theorem dX5_opens_30 : decode cX5_opens 30 = .ok (.iload_n 1, 1) := by decide +kernel
theorem dX5_opens_31 : decode cX5_opens 31 = .ok (.ireturn, 1) := by decide +kernel
theorem dX5_opens_32 : decode cX5_opens 32 = .ok (.aload_n 0, 1) := by decide +kernel
theorem dX5_opens_33 : decode cX5_opens 33 = .ok (.getfield 32, 3) := by decide +kernel
theorem dX5_opens_36 : decode cX5_opens 36 = .ok (.invokevirtual 141, 3) := by decide +kernel
theorem dX5_opens_39 : decode cX5_opens 39 = .ok (.iinc 1 1, 3) := by decide +kernel
theorem dX5_opens_42 : decode cX5_opens 42 = .ok (.goto (-29), 3) := by decide +kernel
theorem dX5_opens_45 : decode cX5_opens 45 = .ok (.iconst (-1), 1) := by decide +kernel
theorem dX5_opens_46 : decode cX5_opens 46 = .ok (.ireturn, 1) := by decide +kernel
theorem dX5_order_0 : decode cX5_order 0 = .ok (.iload_n 1, 1) := by decide +kernel
theorem dX5_order_1 : decode cX5_order 1 = .ok (.ifCond .eq 11, 3) := by decide +kernel
theorem dX5_order_4 : decode cX5_order 4 = .ok (.iload_n 1, 1) := by decide +kernel
theorem dX5_order_5 : decode cX5_order 5 = .ok (.iconst 1, 1) := by decide +kernel
theorem dX5_order_6 : decode cX5_order 6 = .ok (.if_icmp .eq 6, 3) := by decide +kernel
theorem dX5_order_9 : decode cX5_order 9 = .ok (.bipush (-2), 2) := by decide +kernel
theorem dX5_order_11 : decode cX5_order 11 = .ok (.ireturn, 1) := by decide +kernel
theorem dX5_order_12 : decode cX5_order 12 = .ok (.aload_n 0, 1) := by decide +kernel
theorem dX5_order_13 : decode cX5_order 13 = .ok (.getfield 41, 3) := by decide +kernel
theorem dX5_order_16 : decode cX5_order 16 = .ok (.aload_n 0, 1) := by decide +kernel
theorem dX5_order_17 : decode cX5_order 17 = .ok (.getfield 28, 3) := by decide +kernel
theorem dX5_order_20 : decode cX5_order 20 = .ok (.invokevirtual 157, 3) := by decide +kernel
theorem dX5_order_23 : decode cX5_order 23 = .ok (.aload_n 0, 1) := by decide +kernel
theorem dX5_order_24 : decode cX5_order 24 = .ok (.getfield 41, 3) := by decide +kernel
theorem dX5_order_27 : decode cX5_order 27 = .ok (.invokevirtual 160, 3) := by decide +kernel
theorem dX5_order_30 : decode cX5_order 30 = .ok (.iload_n 1, 1) := by decide +kernel
theorem dX5_order_31 : decode cX5_order 31 = .ok (.ifCond .ne 13, 3) := by decide +kernel
theorem dX5_order_34 : decode cX5_order 34 = .ok (.aload_n 0, 1) := by decide +kernel
theorem dX5_order_35 : decode cX5_order 35 = .ok (.getfield 41, 3) := by decide +kernel
theorem dX5_order_38 : decode cX5_order 38 = .ok (.invokevirtual 163, 3) := by decide +kernel
theorem dX5_order_41 : decode cX5_order 41 = .ok (.goto 10, 3) := by decide +kernel
theorem dX5_order_44 : decode cX5_order 44 = .ok (.aload_n 0, 1) := by decide +kernel
theorem dX5_order_45 : decode cX5_order 45 = .ok (.getfield 41, 3) := by decide +kernel
theorem dX5_order_48 : decode cX5_order 48 = .ok (.getfield 166, 3) := by decide +kernel
theorem dX5_order_51 : decode cX5_order 51 = .ok (.ireturn, 1) := by decide +kernel
theorem dX5_let_0 : decode cX5_let 0 = .ok (.iload_n 1, 1) := by decide +kernel
theorem dX5_let_1 : decode cX5_let 1 = .ok (.ifCond .eq 11, 3) := by decide +kernel
theorem dX5_let_4 : decode cX5_let 4 = .ok (.iload_n 1, 1) := by decide +kernel
theorem dX5_let_5 : decode cX5_let 5 = .ok (.iconst 1, 1) := by decide +kernel
theorem dX5_let_6 : decode cX5_let 6 = .ok (.if_icmp .eq 6, 3) := by decide +kernel
theorem dX5_let_9 : decode cX5_let 9 = .ok (.bipush (-2), 2) := by decide +kernel
theorem dX5_let_11 : decode cX5_let 11 = .ok (.ireturn, 1) := by decide +kernel
theorem dX5_let_12 : decode cX5_let 12 = .ok (.iconst (-1), 1) := by decide +kernel
theorem dX5_let_13 : decode cX5_let 13 = .ok (.istore_n 2, 1) := by decide +kernel
theorem dX5_let_14 : decode cX5_let 14 = .ok (.iconst (-1), 1) := by decide +kernel
theorem dX5_let_15 : decode cX5_let 15 = .ok (.istore_n 3, 1) := by decide +kernel
theorem dX5_let_16 : decode cX5_let 16 = .ok (.iconst 0, 1) := by decide +kernel
theorem dX5_let_17 : decode cX5_let 17 = .ok (.istore 4, 2) := by decide +kernel
theorem dX5_let_19 : decode cX5_let 19 = .ok (.iload 4, 2) := by decide +kernel
theorem dX5_let_21 : decode cX5_let 21 = .ok (.aload_n 0, 1) := by decide +kernel
theorem dX5_let_22 : decode cX5_let 22 = .ok (.getfield 28, 3) := by decide +kernel
theorem dX5_let_25 : decode cX5_let 25 = .ok (.getfield 169, 3) := by decide +kernel
theorem dX5_let_28 : decode cX5_let 28 = .ok (.if_icmp .ge 78, 3) := by decide +kernel
theorem dX5_let_31 : decode cX5_let 31 = .ok (.aload_n 0, 1) := by decide +kernel
theorem dX5_let_32 : decode cX5_let 32 = .ok (.getfield 28, 3) := by decide +kernel
theorem dX5_let_35 : decode cX5_let 35 = .ok (.getfield 125, 3) := by decide +kernel
theorem dX5_let_38 : decode cX5_let 38 = .ok (.iconst 2, 1) := by decide +kernel
theorem dX5_let_39 : decode cX5_let 39 = .ok (.if_icmp .le 67, 3) := by decide +kernel
theorem dX5_let_42 : decode cX5_let 42 = .ok (.aload_n 0, 1) := by decide +kernel
theorem dX5_let_43 : decode cX5_let 43 = .ok (.getfield 28, 3) := by decide +kernel
theorem dX5_let_46 : decode cX5_let 46 = .ok (.iload 4, 2) := by decide +kernel
theorem dX5_let_48 : decode cX5_let 48 = .ok (.invokevirtual 90, 3) := by decide +kernel
theorem dX5_let_51 : decode cX5_let 51 = .ok (.istore 5, 2) := by decide +kernel
theorem dX5_let_53 : decode cX5_let 53 = .ok (.iload 5, 2) := by decide +kernel
theorem dX5_let_55 : decode cX5_let 55 = .ok (.iconst (-1), 1) := by decide +kernel
theorem dX5_let_56 : decode cX5_let 56 = .ok (.if_icmp .eq 44, 3) := by decide +kernel
theorem dX5_let_59 : decode cX5_let 59 = .ok (.aload_n 0, 1) := by decide +kernel
theorem dX5_let_60 : decode cX5_let 60 = .ok (.getfield 32, 3) := by decide +kernel
theorem dX5_let_63 : decode cX5_let 63 = .ok (.aload_n 0, 1) := by decide +kernel
theorem dX5_let_64 : decode cX5_let 64 = .ok (.getfield 28, 3) := by decide +kernel
theorem dX5_let_67 : decode cX5_let 67 = .ok (.invokevirtual 153, 3) := by decide +kernel
theorem dX5_let_70 : decode cX5_let 70 = .ok (.aload_n 0, 1) := by decide +kernel
theorem dX5_let_71 : decode cX5_let 71 = .ok (.getfield 32, 3) := by decide +kernel
theorem dX5_let_74 : decode cX5_let 74 = .ok (.iload 5, 2) := by decide +kernel
theorem dX5_let_76 : decode cX5_let 76 = .ok (.invokevirtual 121, 3) := by decide +kernel
theorem dX5_let_79 : decode cX5_let 79 = .ok (.aload_n 0, 1) := by decide +kernel
theorem dX5_let_80 : decode cX5_let 80 = .ok (.getfield 32, 3) := by decide +kernel
theorem dX5_let_83 : decode cX5_let 83 = .ok (.invokevirtual 135, 3) := by decide +kernel
theorem dX5_let_86 : decode cX5_let 86 = .ok (.istore 6, 2) := by decide +kernel
theorem dX5_let_88 : decode cX5_let 88 = .ok (.iload 6, 2) := by decide +kernel
theorem dX5_let_90 : decode cX5_let 90 = .ok (.iload_n 3, 1) := by decide +kernel
theorem dX5_let_91 : decode cX5_let 91 = .ok (.if_icmp .le 9, 3) := by decide +kernel
theorem dX5_let_94 : decode cX5_let 94 = .ok (.iload 4, 2) := by decide +kernel
theorem dX5_let_96 : decode cX5_let 96 = .ok (.istore_n 2, 1) := by decide +kernel
theorem dX5_let_97 : decode cX5_let 97 = .ok (.iload 6, 2) := by decide +kernel
theorem dX5_let_99 : decode cX5_let 99 = .ok (.istore_n 3, 1) := by decide +kernel
theorem dX5_let_100 : decode cX5_let 100 = .ok (.iinc 4 1, 3) := by decide +kernel
theorem dX5_let_103 : decode cX5_let 103 = .ok (.goto (-84), 3) := by decide +kernel
theorem dX5_let_106 : decode cX5_let 106 = .ok (.iload_n 1, 1) := by decide +kernel
theorem dX5_let_107 : decode cX5_let 107 = .ok (.ifCond .ne 7, 3) := by decide +kernel
theorem dX5_let_110 : decode cX5_let 110 = .ok (.iload_n 2, 1) := by decide +kernel
theorem dX5_let_111 : decode cX5_let 111 = .ok (.goto 4, 3) := by decide +kernel
theorem dX5_let_114 : decode cX5_let 114 = .ok (.iload_n 3, 1) := by decide +kernel
theorem dX5_let_115 : decode cX5_let 115 = .ok (.ireturn, 1) := by decide +kernel
theorem dX5_letsIn_0 : decode cX5_letsIn 0 = .ok (.aload_n 0, 1) := by decide +kernel
theorem dX5_letsIn_1 : decode cX5_letsIn 1 = .ok (.getfield 28, 3) := by decide +kernel
theorem dX5_letsIn_4 : decode cX5_letsIn 4 = .ok (.iload_n 1, 1) := by decide +kernel
theorem dX5_letsIn_5 : decode cX5_letsIn 5 = .ok (.invokevirtual 75, 3) := by decide +kernel
theorem dX5_letsIn_8 : decode cX5_letsIn 8 = .ok (.ifCond .eq 12, 3) := by decide +kernel
theorem dX5_letsIn_11 : decode cX5_letsIn 11 = .ok (.iload_n 2, 1) := by decide +kernel
theorem dX5_letsIn_12 : decode cX5_letsIn 12 = .ok (.ifCond .eq 11, 3) := by decide +kernel
theorem dX5_letsIn_15 : decode cX5_letsIn 15 = .ok (.iload_n 2, 1) := by decide +kernel
theorem dX5_letsIn_16 : decode cX5_letsIn 16 = .ok (.iconst 1, 1) := by decide +kernel
theorem dX5_letsIn_17 : decode cX5_letsIn 17 = .ok (.if_icmp .eq 6, 3) := by decide +kernel
theorem dX5_letsIn_20 : decode cX5_letsIn 20 = .ok (.bipush (-2), 2) := by decide +kernel
theorem dX5_letsIn_22 : decode cX5_letsIn 22 = .ok (.ireturn, 1) := by decide +kernel
theorem dX5_letsIn_23 : decode cX5_letsIn 23 = .ok (.aload_n 0, 1) := by decide +kernel
theorem dX5_letsIn_24 : decode cX5_letsIn 24 = .ok (.getfield 28, 3) := by decide +kernel
theorem dX5_letsIn_27 : decode cX5_letsIn 27 = .ok (.iload_n 1, 1) := by decide +kernel
theorem dX5_letsIn_28 : decode cX5_letsIn 28 = .ok (.invokevirtual 90, 3) := by decide +kernel
theorem dX5_letsIn_31 : decode cX5_letsIn 31 = .ok (.iconst (-1), 1) := by decide +kernel
theorem dX5_letsIn_32 : decode cX5_letsIn 32 = .ok (.if_icmp .eq 6, 3) := by decide +kernel
theorem dX5_letsIn_35 : decode cX5_letsIn 35 = .ok (.bipush (-3), 2) := by decide +kernel
theorem dX5_letsIn_37 : decode cX5_letsIn 37 = .ok (.ireturn, 1) := by decide +kernel
theorem dX5_letsIn_38 : decode cX5_letsIn 38 = .ok (.iconst (-1), 1) := by decide +kernel
theorem dX5_letsIn_39 : decode cX5_letsIn 39 = .ok (.istore_n 3, 1) := by decide +kernel
theorem dX5_letsIn_40 : decode cX5_letsIn 40 = .ok (.iconst (-1), 1) := by decide +kernel
theorem dX5_letsIn_41 : decode cX5_letsIn 41 = .ok (.istore 4, 2) := by decide +kernel
theorem dX5_letsIn_43 : decode cX5_letsIn 43 = .ok (.iconst 1, 1) := by decide +kernel
theorem dX5_letsIn_44 : decode cX5_letsIn 44 = .ok (.istore 5, 2) := by decide +kernel
theorem dX5_letsIn_46 : decode cX5_letsIn 46 = .ok (.iload 5, 2) := by decide +kernel
theorem dX5_letsIn_48 : decode cX5_letsIn 48 = .ok (.aload_n 0, 1) := by decide +kernel
theorem dX5_letsIn_49 : decode cX5_letsIn 49 = .ok (.getfield 28, 3) := by decide +kernel
theorem dX5_letsIn_52 : decode cX5_letsIn 52 = .ok (.getfield 125, 3) := by decide +kernel
theorem dX5_letsIn_55 : decode cX5_letsIn 55 = .ok (.if_icmp .gt 53, 3) := by decide +kernel
theorem dX5_letsIn_58 : decode cX5_letsIn 58 = .ok (.aload_n 0, 1) := by decide +kernel
theorem dX5_letsIn_59 : decode cX5_letsIn 59 = .ok (.getfield 32, 3) := by decide +kernel
theorem dX5_letsIn_62 : decode cX5_letsIn 62 = .ok (.aload_n 0, 1) := by decide +kernel
theorem dX5_letsIn_63 : decode cX5_letsIn 63 = .ok (.getfield 28, 3) := by decide +kernel
theorem dX5_letsIn_66 : decode cX5_letsIn 66 = .ok (.invokevirtual 153, 3) := by decide +kernel
theorem dX5_letsIn_69 : decode cX5_letsIn 69 = .ok (.aload_n 0, 1) := by decide +kernel
theorem dX5_letsIn_70 : decode cX5_letsIn 70 = .ok (.getfield 32, 3) := by decide +kernel
theorem dX5_letsIn_73 : decode cX5_letsIn 73 = .ok (.iload_n 1, 1) := by decide +kernel
theorem dX5_letsIn_74 : decode cX5_letsIn 74 = .ok (.iload 5, 2) := by decide +kernel
theorem dX5_letsIn_76 : decode cX5_letsIn 76 = .ok (.invokevirtual 128, 3) := by decide +kernel
theorem dX5_letsIn_79 : decode cX5_letsIn 79 = .ok (.aload_n 0, 1) := by decide +kernel
theorem dX5_letsIn_80 : decode cX5_letsIn 80 = .ok (.getfield 32, 3) := by decide +kernel
theorem dX5_letsIn_83 : decode cX5_letsIn 83 = .ok (.invokevirtual 135, 3) := by decide +kernel
theorem dX5_letsIn_86 : decode cX5_letsIn 86 = .ok (.istore 6, 2) := by decide +kernel
theorem dX5_letsIn_88 : decode cX5_letsIn 88 = .ok (.iload 6, 2) := by decide +kernel
theorem dX5_letsIn_90 : decode cX5_letsIn 90 = .ok (.iload 4, 2) := by decide +kernel
theorem dX5_letsIn_92 : decode cX5_letsIn 92 = .ok (.if_icmp .le 10, 3) := by decide +kernel
theorem dX5_letsIn_95 : decode cX5_letsIn 95 = .ok (.iload 5, 2) := by decide +kernel
theorem dX5_letsIn_97 : decode cX5_letsIn 97 = .ok (.istore_n 3, 1) := by decide +kernel
theorem dX5_letsIn_98 : decode cX5_letsIn 98 = .ok (.iload 6, 2) := by decide +kernel
theorem dX5_letsIn_100 : decode cX5_letsIn 100 = .ok (.istore 4, 2) := by decide +kernel
theorem dX5_letsIn_102 : decode cX5_letsIn 102 = .ok (.iinc 5 1, 3) := by decide +kernel
theorem dX5_letsIn_105 : decode cX5_letsIn 105 = .ok (.goto (-59), 3) := by decide +kernel
theorem dX5_letsIn_108 : decode cX5_letsIn 108 = .ok (.iload_n 2, 1) := by decide +kernel
theorem dX5_letsIn_109 : decode cX5_letsIn 109 = .ok (.ifCond .ne 7, 3) := by decide +kernel
theorem dX5_letsIn_112 : decode cX5_letsIn 112 = .ok (.iload_n 3, 1) := by decide +kernel
theorem dX5_letsIn_113 : decode cX5_letsIn 113 = .ok (.goto 5, 3) := by decide +kernel
theorem dX5_letsIn_116 : decode cX5_letsIn 116 = .ok (.iload 4, 2) := by decide +kernel
theorem dX5_letsIn_118 : decode cX5_letsIn 118 = .ok (.ireturn, 1) := by decide +kernel
theorem dX5_swaps_0 : decode cX5_swaps 0 = .ok (.aload_n 0, 1) := by decide +kernel
theorem dX5_swaps_1 : decode cX5_swaps 1 = .ok (.getfield 41, 3) := by decide +kernel
theorem dX5_swaps_4 : decode cX5_swaps 4 = .ok (.aload_n 0, 1) := by decide +kernel
theorem dX5_swaps_5 : decode cX5_swaps 5 = .ok (.getfield 28, 3) := by decide +kernel
theorem dX5_swaps_8 : decode cX5_swaps 8 = .ok (.invokevirtual 157, 3) := by decide +kernel
theorem dX5_swaps_11 : decode cX5_swaps 11 = .ok (.aload_n 0, 1) := by decide +kernel
theorem dX5_swaps_12 : decode cX5_swaps 12 = .ok (.getfield 41, 3) := by decide +kernel
theorem dX5_swaps_15 : decode cX5_swaps 15 = .ok (.invokevirtual 172, 3) := by decide +kernel
theorem dX5_swaps_18 : decode cX5_swaps 18 = .ok (.ireturn, 1) := by decide +kernel
theorem dX5_mean_0 : decode cX5_mean 0 = .ok (.iload_n 1, 1) := by decide +kernel
theorem dX5_mean_1 : decode cX5_mean 1 = .ok (.ifCond .eq 8, 3) := by decide +kernel
theorem dX5_mean_4 : decode cX5_mean 4 = .ok (.iload_n 1, 1) := by decide +kernel
theorem dX5_mean_5 : decode cX5_mean 5 = .ok (.iconst 1, 1) := by decide +kernel
theorem dX5_mean_6 : decode cX5_mean 6 = .ok (.if_icmp .ne 14, 3) := by decide +kernel
theorem dX5_mean_9 : decode cX5_mean 9 = .ok (.aload_n 0, 1) := by decide +kernel
theorem dX5_mean_10 : decode cX5_mean 10 = .ok (.getfield 28, 3) := by decide +kernel
theorem dX5_mean_13 : decode cX5_mean 13 = .ok (.getfield 125, 3) := by decide +kernel
theorem dX5_mean_16 : decode cX5_mean 16 = .ok (.iconst 1, 1) := by decide +kernel
theorem dX5_mean_17 : decode cX5_mean 17 = .ok (.if_icmp .ge 7, 3) := by decide +kernel
theorem dX5_mean_20 : decode cX5_mean 20 = .ok (.ldc2_w 175, 3) := by decide +kernel
theorem dX5_mean_23 : decode cX5_mean 23 = .ok (.lreturn, 1) := by decide +kernel
theorem dX5_mean_24 : decode cX5_mean 24 = .ok (.iconst 0, 1) := by decide +kernel
theorem dX5_mean_25 : decode cX5_mean 25 = .ok (.istore_n 2, 1) := by decide +kernel
theorem dX5_mean_26 : decode cX5_mean 26 = .ok (.iconst 0, 1) := by decide +kernel
theorem dX5_mean_27 : decode cX5_mean 27 = .ok (.istore_n 3, 1) := by decide +kernel
theorem dX5_mean_28 : decode cX5_mean 28 = .ok (.iload_n 3, 1) := by decide +kernel
theorem dX5_mean_29 : decode cX5_mean 29 = .ok (.aload_n 0, 1) := by decide +kernel
theorem dX5_mean_30 : decode cX5_mean 30 = .ok (.getfield 28, 3) := by decide +kernel
theorem dX5_mean_33 : decode cX5_mean 33 = .ok (.getfield 125, 3) := by decide +kernel
theorem dX5_mean_36 : decode cX5_mean 36 = .ok (.if_icmp .ge 28, 3) := by decide +kernel
theorem dX5_mean_39 : decode cX5_mean 39 = .ok (.iload_n 2, 1) := by decide +kernel
theorem dX5_mean_40 : decode cX5_mean 40 = .ok (.aload_n 0, 1) := by decide +kernel
theorem dX5_mean_41 : decode cX5_mean 41 = .ok (.getfield 28, 3) := by decide +kernel
theorem dX5_mean_44 : decode cX5_mean 44 = .ok (.iconst 3, 1) := by decide +kernel
theorem dX5_mean_45 : decode cX5_mean 45 = .ok (.aload_n 0, 1) := by decide +kernel
theorem dX5_mean_46 : decode cX5_mean 46 = .ok (.getfield 28, 3) := by decide +kernel
theorem dX5_mean_49 : decode cX5_mean 49 = .ok (.iload_n 3, 1) := by decide +kernel
theorem dX5_mean_50 : decode cX5_mean 50 = .ok (.invokevirtual 96, 3) := by decide +kernel
theorem dX5_mean_53 : decode cX5_mean 53 = .ok (.invokevirtual 78, 3) := by decide +kernel
theorem dX5_mean_56 : decode cX5_mean 56 = .ok (.iadd, 1) := by decide +kernel
theorem dX5_mean_57 : decode cX5_mean 57 = .ok (.istore_n 2, 1) := by decide +kernel
theorem dX5_mean_58 : decode cX5_mean 58 = .ok (.iinc 3 1, 3) := by decide +kernel
theorem dX5_mean_61 : decode cX5_mean 61 = .ok (.goto (-33), 3) := by decide +kernel
theorem dX5_mean_64 : decode cX5_mean 64 = .ok (.iload_n 2, 1) := by decide +kernel
theorem dX5_mean_65 : decode cX5_mean 65 = .ok (.aload_n 0, 1) := by decide +kernel
theorem dX5_mean_66 : decode cX5_mean 66 = .ok (.getfield 28, 3) := by decide +kernel
theorem dX5_mean_69 : decode cX5_mean 69 = .ok (.getfield 125, 3) := by decide +kernel
theorem dX5_mean_72 : decode cX5_mean 72 = .ok (.iload_n 1, 1) := by decide +kernel
theorem dX5_mean_73 : decode cX5_mean 73 = .ok (.invokestatic 177, 3) := by decide +kernel
theorem dX5_mean_76 : decode cX5_mean 76 = .ok (.lreturn, 1) := by decide +kernel
theorem dX5_tells_0 : decode cX5_tells 0 = .ok (.iload_n 1, 1) := by decide +kernel
theorem dX5_tells_1 : decode cX5_tells 1 = .ok (.invokestatic 181, 3) := by decide +kernel
theorem dX5_tells_4 : decode cX5_tells 4 = .ok (.ifCond .eq 24, 3) := by decide +kernel
theorem dX5_tells_7 : decode cX5_tells 7 = .ok (.aload_n 0, 1) := by decide +kernel
theorem dX5_tells_8 : decode cX5_tells 8 = .ok (.getfield 28, 3) := by decide +kernel
theorem dX5_tells_11 : decode cX5_tells 11 = .ok (.iload_n 2, 1) := by decide +kernel
theorem dX5_tells_12 : decode cX5_tells 12 = .ok (.invokevirtual 75, 3) := by decide +kernel
theorem dX5_tells_15 : decode cX5_tells 15 = .ok (.ifCond .eq 13, 3) := by decide +kernel
theorem dX5_tells_18 : decode cX5_tells 18 = .ok (.iload_n 3, 1) := by decide +kernel
theorem dX5_tells_19 : decode cX5_tells 19 = .ok (.ifCond .lt 9, 3) := by decide +kernel
theorem dX5_tells_22 : decode cX5_tells 22 = .ok (.iload_n 3, 1) := by decide +kernel
theorem dX5_tells_23 : decode cX5_tells 23 = .ok (.bipush 7, 2) := by decide +kernel
theorem dX5_tells_25 : decode cX5_tells 25 = .ok (.if_icmp .le 6, 3) := by decide +kernel
theorem dX5_tells_28 : decode cX5_tells 28 = .ok (.bipush (-2), 2) := by decide +kernel
theorem dX5_tells_30 : decode cX5_tells 30 = .ok (.ireturn, 1) := by decide +kernel
theorem dX5_tells_31 : decode cX5_tells 31 = .ok (.aload_n 0, 1) := by decide +kernel
theorem dX5_tells_32 : decode cX5_tells 32 = .ok (.getfield 47, 3) := by decide +kernel
theorem dX5_tells_35 : decode cX5_tells 35 = .ok (.iload_n 1, 1) := by decide +kernel
theorem dX5_tells_36 : decode cX5_tells 36 = .ok (.aaload, 1) := by decide +kernel
theorem dX5_tells_37 : decode cX5_tells 37 = .ok (.astore 4, 2) := by decide +kernel
theorem dX5_tells_39 : decode cX5_tells 39 = .ok (.aload 4, 2) := by decide +kernel
theorem dX5_tells_41 : decode cX5_tells 41 = .ok (.getfield 184, 3) := by decide +kernel
theorem dX5_tells_44 : decode cX5_tells 44 = .ok (.iconst (-1), 1) := by decide +kernel
theorem dX5_tells_45 : decode cX5_tells 45 = .ok (.if_icmp .ne 6, 3) := by decide +kernel
theorem dX5_tells_48 : decode cX5_tells 48 = .ok (.bipush (-11), 2) := by decide +kernel
theorem dX5_tells_50 : decode cX5_tells 50 = .ok (.ireturn, 1) := by decide +kernel
theorem dX5_tells_51 : decode cX5_tells 51 = .ok (.aload 4, 2) := by decide +kernel
theorem dX5_tells_53 : decode cX5_tells 53 = .ok (.getfield 187, 3) := by decide +kernel
theorem dX5_tells_56 : decode cX5_tells 56 = .ok (.bipush 6, 2) := by decide +kernel
theorem dX5_tells_58 : decode cX5_tells 58 = .ok (.if_icmp .le 6, 3) := by decide +kernel
theorem dX5_tells_61 : decode cX5_tells 61 = .ok (.bipush (-2), 2) := by decide +kernel
theorem dX5_tells_63 : decode cX5_tells 63 = .ok (.ireturn, 1) := by decide +kernel
theorem dX5_tells_64 : decode cX5_tells 64 = .ok (.iload_n 3, 1) := by decide +kernel
theorem dX5_tells_65 : decode cX5_tells 65 = .ok (.ifCond .ne 15, 3) := by decide +kernel
theorem dX5_tells_68 : decode cX5_tells 68 = .ok (.aload_n 0, 1) := by decide +kernel
theorem dX5_tells_69 : decode cX5_tells 69 = .ok (.getfield 28, 3) := by decide +kernel
theorem dX5_tells_72 : decode cX5_tells 72 = .ok (.aload 4, 2) := by decide +kernel
theorem dX5_tells_74 : decode cX5_tells 74 = .ok (.invokevirtual 188, 3) := by decide +kernel
theorem dX5_tells_77 : decode cX5_tells 77 = .ok (.goto 11, 3) := by decide +kernel
theorem dX5_tells_80 : decode cX5_tells 80 = .ok (.aload_n 0, 1) := by decide +kernel
theorem dX5_tells_81 : decode cX5_tells 81 = .ok (.aload 4, 2) := by decide +kernel
theorem dX5_tells_83 : decode cX5_tells 83 = .ok (.iload_n 2, 1) := by decide +kernel
theorem dX5_tells_84 : decode cX5_tells 84 = .ok (.iload_n 3, 1) := by decide +kernel
theorem dX5_tells_85 : decode cX5_tells 85 = .ok (.invokevirtual 192, 3) := by decide +kernel
theorem dX5_tells_88 : decode cX5_tells 88 = .ok (.ireturn, 1) := by decide +kernel
theorem dX5_film_0 : decode cX5_film 0 = .ok (.iload_n 1, 1) := by decide +kernel
theorem dX5_film_1 : decode cX5_film 1 = .ok (.invokestatic 181, 3) := by decide +kernel
theorem dX5_film_4 : decode cX5_film 4 = .ok (.ifCond .ne 6, 3) := by decide +kernel
theorem dX5_film_7 : decode cX5_film 7 = .ok (.bipush (-2), 2) := by decide +kernel
theorem dX5_film_9 : decode cX5_film 9 = .ok (.ireturn, 1) := by decide +kernel
theorem dX5_film_10 : decode cX5_film 10 = .ok (.aload_n 0, 1) := by decide +kernel
theorem dX5_film_11 : decode cX5_film 11 = .ok (.getfield 28, 3) := by decide +kernel
theorem dX5_film_14 : decode cX5_film 14 = .ok (.invokevirtual 99, 3) := by decide +kernel
theorem dX5_film_17 : decode cX5_film 17 = .ok (.istore_n 2, 1) := by decide +kernel
theorem dX5_film_18 : decode cX5_film 18 = .ok (.aload_n 0, 1) := by decide +kernel
theorem dX5_film_19 : decode cX5_film 19 = .ok (.getfield 47, 3) := by decide +kernel
theorem dX5_film_22 : decode cX5_film 22 = .ok (.iload_n 1, 1) := by decide +kernel
theorem dX5_film_23 : decode cX5_film 23 = .ok (.aaload, 1) := by decide +kernel
theorem dX5_film_24 : decode cX5_film 24 = .ok (.astore_n 3, 1) := by decide +kernel
theorem dX5_film_25 : decode cX5_film 25 = .ok (.aload_n 3, 1) := by decide +kernel
theorem dX5_film_26 : decode cX5_film 26 = .ok (.iconst 0, 1) := by decide +kernel
theorem dX5_film_27 : decode cX5_film 27 = .ok (.iload_n 2, 1) := by decide +kernel
theorem dX5_film_28 : decode cX5_film 28 = .ok (.invokevirtual 196, 3) := by decide +kernel
theorem dX5_film_31 : decode cX5_film 31 = .ok (.iconst 0, 1) := by decide +kernel
theorem dX5_film_32 : decode cX5_film 32 = .ok (.istore 4, 2) := by decide +kernel
theorem dX5_film_34 : decode cX5_film 34 = .ok (.iload 4, 2) := by decide +kernel
theorem dX5_film_36 : decode cX5_film 36 = .ok (.iload_n 2, 1) := by decide +kernel
theorem dX5_film_37 : decode cX5_film 37 = .ok (.if_icmp .ge 24, 3) := by decide +kernel
theorem dX5_film_40 : decode cX5_film 40 = .ok (.aload_n 3, 1) := by decide +kernel
theorem dX5_film_41 : decode cX5_film 41 = .ok (.iload 4, 2) := by decide +kernel
theorem dX5_film_43 : decode cX5_film 43 = .ok (.aload_n 0, 1) := by decide +kernel
theorem dX5_film_44 : decode cX5_film 44 = .ok (.getfield 28, 3) := by decide +kernel
theorem dX5_film_47 : decode cX5_film 47 = .ok (.iload 4, 2) := by decide +kernel
theorem dX5_film_49 : decode cX5_film 49 = .ok (.invokevirtual 102, 3) := by decide +kernel
theorem dX5_film_52 : decode cX5_film 52 = .ok (.invokevirtual 199, 3) := by decide +kernel
theorem dX5_film_55 : decode cX5_film 55 = .ok (.iinc 4 1, 3) := by decide +kernel
theorem dX5_film_58 : decode cX5_film 58 = .ok (.goto (-24), 3) := by decide +kernel
theorem dX5_film_61 : decode cX5_film 61 = .ok (.iload_n 2, 1) := by decide +kernel
theorem dX5_film_62 : decode cX5_film 62 = .ok (.ireturn, 1) := by decide +kernel
theorem dX5_drawn_0 : decode cX5_drawn 0 = .ok (.iload_n 2, 1) := by decide +kernel
theorem dX5_drawn_1 : decode cX5_drawn 1 = .ok (.ifCond .lt 9, 3) := by decide +kernel
theorem dX5_drawn_4 : decode cX5_drawn 4 = .ok (.iload_n 2, 1) := by decide +kernel
theorem dX5_drawn_5 : decode cX5_drawn 5 = .ok (.bipush 40, 2) := by decide +kernel
theorem dX5_drawn_7 : decode cX5_drawn 7 = .ok (.if_icmp .le 6, 3) := by decide +kernel
theorem dX5_drawn_10 : decode cX5_drawn 10 = .ok (.bipush (-2), 2) := by decide +kernel
theorem dX5_drawn_12 : decode cX5_drawn 12 = .ok (.ireturn, 1) := by decide +kernel
theorem dX5_drawn_13 : decode cX5_drawn 13 = .ok (.aload_n 0, 1) := by decide +kernel
theorem dX5_drawn_14 : decode cX5_drawn 14 = .ok (.getfield 41, 3) := by decide +kernel
theorem dX5_drawn_17 : decode cX5_drawn 17 = .ok (.aload_n 0, 1) := by decide +kernel
theorem dX5_drawn_18 : decode cX5_drawn 18 = .ok (.getfield 28, 3) := by decide +kernel
theorem dX5_drawn_21 : decode cX5_drawn 21 = .ok (.invokevirtual 157, 3) := by decide +kernel
theorem dX5_drawn_24 : decode cX5_drawn 24 = .ok (.aload_n 0, 1) := by decide +kernel
theorem dX5_drawn_25 : decode cX5_drawn 25 = .ok (.getfield 41, 3) := by decide +kernel
theorem dX5_drawn_28 : decode cX5_drawn 28 = .ok (.iload_n 1, 1) := by decide +kernel
theorem dX5_drawn_29 : decode cX5_drawn 29 = .ok (.iload_n 2, 1) := by decide +kernel
theorem dX5_drawn_30 : decode cX5_drawn 30 = .ok (.invokevirtual 202, 3) := by decide +kernel
theorem dX5_drawn_33 : decode cX5_drawn 33 = .ok (.ireturn, 1) := by decide +kernel
theorem dX5_chance_0 : decode cX5_chance 0 = .ok (.iload_n 2, 1) := by decide +kernel
theorem dX5_chance_1 : decode cX5_chance 1 = .ok (.iconst 1, 1) := by decide +kernel
theorem dX5_chance_2 : decode cX5_chance 2 = .ok (.if_icmp .lt 30, 3) := by decide +kernel
theorem dX5_chance_5 : decode cX5_chance 5 = .ok (.iload_n 2, 1) := by decide +kernel
theorem dX5_chance_6 : decode cX5_chance 6 = .ok (.bipush 40, 2) := by decide +kernel
theorem dX5_chance_8 : decode cX5_chance 8 = .ok (.if_icmp .gt 24, 3) := by decide +kernel
theorem dX5_chance_11 : decode cX5_chance 11 = .ok (.iload_n 3, 1) := by decide +kernel
theorem dX5_chance_12 : decode cX5_chance 12 = .ok (.ifCond .lt 20, 3) := by decide +kernel
theorem dX5_chance_15 : decode cX5_chance 15 = .ok (.iload_n 3, 1) := by decide +kernel
theorem dX5_chance_16 : decode cX5_chance 16 = .ok (.bipush 99, 2) := by decide +kernel
theorem dX5_chance_18 : decode cX5_chance 18 = .ok (.if_icmp .gt 14, 3) := by decide +kernel
theorem dX5_chance_21 : decode cX5_chance 21 = .ok (.iload 4, 2) := by decide +kernel
theorem dX5_chance_23 : decode cX5_chance 23 = .ok (.ifCond .eq 13, 3) := by decide +kernel
theorem dX5_chance_26 : decode cX5_chance 26 = .ok (.iload 4, 2) := by decide +kernel
theorem dX5_chance_28 : decode cX5_chance 28 = .ok (.iconst 1, 1) := by decide +kernel
theorem dX5_chance_29 : decode cX5_chance 29 = .ok (.if_icmp .eq 7, 3) := by decide +kernel
theorem dX5_chance_32 : decode cX5_chance 32 = .ok (.ldc2_w 175, 3) := by decide +kernel
theorem dX5_chance_35 : decode cX5_chance 35 = .ok (.lreturn, 1) := by decide +kernel
theorem dX5_chance_36 : decode cX5_chance 36 = .ok (.aload_n 0, 1) := by decide +kernel
theorem dX5_chance_37 : decode cX5_chance 37 = .ok (.getfield 41, 3) := by decide +kernel
theorem dX5_chance_40 : decode cX5_chance 40 = .ok (.aload_n 0, 1) := by decide +kernel
theorem dX5_chance_41 : decode cX5_chance 41 = .ok (.getfield 28, 3) := by decide +kernel
theorem dX5_chance_44 : decode cX5_chance 44 = .ok (.invokevirtual 157, 3) := by decide +kernel
theorem dX5_chance_47 : decode cX5_chance 47 = .ok (.iconst 0, 1) := by decide +kernel
theorem dX5_chance_48 : decode cX5_chance 48 = .ok (.istore 5, 2) := by decide +kernel
theorem dX5_chance_50 : decode cX5_chance 50 = .ok (.iconst 0, 1) := by decide +kernel
theorem dX5_chance_51 : decode cX5_chance 51 = .ok (.istore 6, 2) := by decide +kernel
theorem dX5_chance_53 : decode cX5_chance 53 = .ok (.iload 6, 2) := by decide +kernel
theorem dX5_chance_55 : decode cX5_chance 55 = .ok (.iload_n 2, 1) := by decide +kernel
theorem dX5_chance_56 : decode cX5_chance 56 = .ok (.if_icmp .ge 29, 3) := by decide +kernel
theorem dX5_chance_59 : decode cX5_chance 59 = .ok (.aload_n 0, 1) := by decide +kernel
theorem dX5_chance_60 : decode cX5_chance 60 = .ok (.getfield 41, 3) := by decide +kernel
theorem dX5_chance_63 : decode cX5_chance 63 = .ok (.iload_n 1, 1) := by decide +kernel
theorem dX5_chance_64 : decode cX5_chance 64 = .ok (.iload 6, 2) := by decide +kernel
theorem dX5_chance_66 : decode cX5_chance 66 = .ok (.iadd, 1) := by decide +kernel
theorem dX5_chance_67 : decode cX5_chance 67 = .ok (.bipush 6, 2) := by decide +kernel
theorem dX5_chance_69 : decode cX5_chance 69 = .ok (.invokevirtual 202, 3) := by decide +kernel
theorem dX5_chance_72 : decode cX5_chance 72 = .ok (.iload_n 3, 1) := by decide +kernel
theorem dX5_chance_73 : decode cX5_chance 73 = .ok (.if_icmp .lt 6, 3) := by decide +kernel
theorem dX5_chance_76 : decode cX5_chance 76 = .ok (.iinc 5 1, 3) := by decide +kernel
theorem dX5_chance_79 : decode cX5_chance 79 = .ok (.iinc 6 1, 3) := by decide +kernel
theorem dX5_chance_82 : decode cX5_chance 82 = .ok (.goto (-29), 3) := by decide +kernel
theorem dX5_chance_85 : decode cX5_chance 85 = .ok (.iload 5, 2) := by decide +kernel
theorem dX5_chance_87 : decode cX5_chance 87 = .ok (.iload_n 2, 1) := by decide +kernel
theorem dX5_chance_88 : decode cX5_chance 88 = .ok (.iload 4, 2) := by decide +kernel
theorem dX5_chance_90 : decode cX5_chance 90 = .ok (.invokestatic 177, 3) := by decide +kernel
theorem dX5_chance_93 : decode cX5_chance 93 = .ok (.lreturn, 1) := by decide +kernel
theorem dX5_image_0 : decode cX5_image 0 = .ok (.aload_n 0, 1) := by decide +kernel
theorem dX5_image_1 : decode cX5_image 1 = .ok (.getfield 35, 3) := by decide +kernel
theorem dX5_image_4 : decode cX5_image 4 = .ok (.aload_n 0, 1) := by decide +kernel
theorem dX5_image_5 : decode cX5_image 5 = .ok (.getfield 28, 3) := by decide +kernel
theorem dX5_image_8 : decode cX5_image 8 = .ok (.invokevirtual 153, 3) := by decide +kernel
theorem dX5_image_11 : decode cX5_image 11 = .ok (.aload_n 0, 1) := by decide +kernel
theorem dX5_image_12 : decode cX5_image 12 = .ok (.iconst 1, 1) := by decide +kernel
theorem dX5_image_13 : decode cX5_image 13 = .ok (.putfield 205, 3) := by decide +kernel
theorem dX5_image_16 : decode cX5_image 16 = .ok (.aload_n 0, 1) := by decide +kernel
theorem dX5_image_17 : decode cX5_image 17 = .ok (.getfield 28, 3) := by decide +kernel
theorem dX5_image_20 : decode cX5_image 20 = .ok (.getfield 169, 3) := by decide +kernel
theorem dX5_image_23 : decode cX5_image 23 = .ok (.ireturn, 1) := by decide +kernel
theorem dX5_back_0 : decode cX5_back 0 = .ok (.aload_n 0, 1) := by decide +kernel
theorem dX5_back_1 : decode cX5_back 1 = .ok (.getfield 205, 3) := by decide +kernel
theorem dX5_back_4 : decode cX5_back 4 = .ok (.ifCond .ne 6, 3) := by decide +kernel
theorem dX5_back_7 : decode cX5_back 7 = .ok (.bipush (-3), 2) := by decide +kernel
theorem dX5_back_9 : decode cX5_back 9 = .ok (.ireturn, 1) := by decide +kernel
theorem dX5_back_10 : decode cX5_back 10 = .ok (.aload_n 0, 1) := by decide +kernel
theorem dX5_back_11 : decode cX5_back 11 = .ok (.getfield 28, 3) := by decide +kernel
theorem dX5_back_14 : decode cX5_back 14 = .ok (.aload_n 0, 1) := by decide +kernel
theorem dX5_back_15 : decode cX5_back 15 = .ok (.getfield 35, 3) := by decide +kernel
theorem dX5_back_18 : decode cX5_back 18 = .ok (.invokevirtual 153, 3) := by decide +kernel
theorem dX5_back_21 : decode cX5_back 21 = .ok (.aload_n 0, 1) := by decide +kernel
theorem dX5_back_22 : decode cX5_back 22 = .ok (.getfield 28, 3) := by decide +kernel
theorem dX5_back_25 : decode cX5_back 25 = .ok (.getfield 169, 3) := by decide +kernel
theorem dX5_back_28 : decode cX5_back 28 = .ok (.ireturn, 1) := by decide +kernel
theorem dX5_count_0 : decode cX5_count 0 = .ok (.iload_n 1, 1) := by decide +kernel
theorem dX5_count_1 : decode cX5_count 1 = .ok (.tableswitch 87 0 5 #[39, 47, 55, 63, 71, 79], 39) := by decide +kernel
theorem dX5_count_40 : decode cX5_count 40 = .ok (.aload_n 0, 1) := by decide +kernel
theorem dX5_count_41 : decode cX5_count 41 = .ok (.getfield 28, 3) := by decide +kernel
theorem dX5_count_44 : decode cX5_count 44 = .ok (.getfield 169, 3) := by decide +kernel
theorem dX5_count_47 : decode cX5_count 47 = .ok (.ireturn, 1) := by decide +kernel
theorem dX5_count_48 : decode cX5_count 48 = .ok (.aload_n 0, 1) := by decide +kernel
theorem dX5_count_49 : decode cX5_count 49 = .ok (.getfield 28, 3) := by decide +kernel
theorem dX5_count_52 : decode cX5_count 52 = .ok (.getfield 125, 3) := by decide +kernel
theorem dX5_count_55 : decode cX5_count 55 = .ok (.ireturn, 1) := by decide +kernel
theorem dX5_count_56 : decode cX5_count 56 = .ok (.aload_n 0, 1) := by decide +kernel
theorem dX5_count_57 : decode cX5_count 57 = .ok (.getfield 28, 3) := by decide +kernel
theorem dX5_count_60 : decode cX5_count 60 = .ok (.getfield 138, 3) := by decide +kernel
theorem dX5_count_63 : decode cX5_count 63 = .ok (.ireturn, 1) := by decide +kernel
theorem dX5_count_64 : decode cX5_count 64 = .ok (.aload_n 0, 1) := by decide +kernel
theorem dX5_count_65 : decode cX5_count 65 = .ok (.getfield 12, 3) := by decide +kernel
theorem dX5_count_68 : decode cX5_count 68 = .ok (.getfield 115, 3) := by decide +kernel
theorem dX5_count_71 : decode cX5_count 71 = .ok (.ireturn, 1) := by decide +kernel
theorem dX5_count_72 : decode cX5_count 72 = .ok (.aload_n 0, 1) := by decide +kernel
theorem dX5_count_73 : decode cX5_count 73 = .ok (.getfield 21, 3) := by decide +kernel
theorem dX5_count_76 : decode cX5_count 76 = .ok (.getfield 111, 3) := by decide +kernel
theorem dX5_count_79 : decode cX5_count 79 = .ok (.ireturn, 1) := by decide +kernel
theorem dX5_count_80 : decode cX5_count 80 = .ok (.aload_n 0, 1) := by decide +kernel
theorem dX5_count_81 : decode cX5_count 81 = .ok (.getfield 28, 3) := by decide +kernel
theorem dX5_count_84 : decode cX5_count 84 = .ok (.getfield 118, 3) := by decide +kernel
theorem dX5_count_87 : decode cX5_count 87 = .ok (.ireturn, 1) := by decide +kernel
theorem dX5_count_88 : decode cX5_count 88 = .ok (.bipush (-2), 2) := by decide +kernel
theorem dX5_count_90 : decode cX5_count 90 = .ok (.ireturn, 1) := by decide +kernel
theorem dX5_sheet_0 : decode cX5_sheet 0 = .ok (.iload_n 1, 1) := by decide +kernel
theorem dX5_sheet_1 : decode cX5_sheet 1 = .ok (.invokestatic 181, 3) := by decide +kernel
theorem dX5_sheet_4 : decode cX5_sheet 4 = .ok (.ifCond .eq 13, 3) := by decide +kernel
theorem dX5_sheet_7 : decode cX5_sheet 7 = .ok (.iload_n 2, 1) := by decide +kernel
theorem dX5_sheet_8 : decode cX5_sheet 8 = .ok (.iconst (-1), 1) := by decide +kernel
theorem dX5_sheet_9 : decode cX5_sheet 9 = .ok (.if_icmp .lt 8, 3) := by decide +kernel
theorem dX5_sheet_12 : decode cX5_sheet 12 = .ok (.iload_n 2, 1) := by decide +kernel
theorem dX5_sheet_13 : decode cX5_sheet 13 = .ok (.iconst 2, 1) := by decide +kernel
theorem dX5_sheet_14 : decode cX5_sheet 14 = .ok (.if_icmp .le 6, 3) := by decide +kernel
theorem dX5_sheet_17 : decode cX5_sheet 17 = .ok (.bipush (-2), 2) := by decide +kernel
theorem dX5_sheet_19 : decode cX5_sheet 19 = .ok (.ireturn, 1) := by decide +kernel
theorem dX5_sheet_20 : decode cX5_sheet 20 = .ok (.iload_n 2, 1) := by decide +kernel
theorem dX5_sheet_21 : decode cX5_sheet 21 = .ok (.iconst (-1), 1) := by decide +kernel
theorem dX5_sheet_22 : decode cX5_sheet 22 = .ok (.if_icmp .eq 12, 3) := by decide +kernel
theorem dX5_sheet_25 : decode cX5_sheet 25 = .ok (.iload_n 3, 1) := by decide +kernel
theorem dX5_sheet_26 : decode cX5_sheet 26 = .ok (.bipush 40, 2) := by decide +kernel
theorem dX5_sheet_28 : decode cX5_sheet 28 = .ok (.if_icmp .le 6, 3) := by decide +kernel
theorem dX5_sheet_31 : decode cX5_sheet 31 = .ok (.bipush (-2), 2) := by decide +kernel
theorem dX5_sheet_33 : decode cX5_sheet 33 = .ok (.ireturn, 1) := by decide +kernel
theorem dX5_sheet_34 : decode cX5_sheet 34 = .ok (.iload_n 2, 1) := by decide +kernel
theorem dX5_sheet_35 : decode cX5_sheet 35 = .ok (.iconst (-1), 1) := by decide +kernel
theorem dX5_sheet_36 : decode cX5_sheet 36 = .ok (.if_icmp .eq 10, 3) := by decide +kernel
theorem dX5_sheet_39 : decode cX5_sheet 39 = .ok (.iload_n 3, 1) := by decide +kernel
theorem dX5_sheet_40 : decode cX5_sheet 40 = .ok (.ifCond .ge 6, 3) := by decide +kernel
theorem dX5_sheet_43 : decode cX5_sheet 43 = .ok (.bipush (-14), 2) := by decide +kernel
theorem dX5_sheet_45 : decode cX5_sheet 45 = .ok (.ireturn, 1) := by decide +kernel
theorem dX5_sheet_46 : decode cX5_sheet 46 = .ok (.aload_n 0, 1) := by decide +kernel
theorem dX5_sheet_47 : decode cX5_sheet 47 = .ok (.getfield 47, 3) := by decide +kernel
theorem dX5_sheet_50 : decode cX5_sheet 50 = .ok (.iload_n 1, 1) := by decide +kernel
theorem dX5_sheet_51 : decode cX5_sheet 51 = .ok (.aaload, 1) := by decide +kernel
theorem dX5_sheet_52 : decode cX5_sheet 52 = .ok (.iload_n 2, 1) := by decide +kernel
theorem dX5_sheet_53 : decode cX5_sheet 53 = .ok (.iload_n 2, 1) := by decide +kernel
theorem dX5_sheet_54 : decode cX5_sheet 54 = .ok (.iconst (-1), 1) := by decide +kernel
theorem dX5_sheet_55 : decode cX5_sheet 55 = .ok (.if_icmp .ne 7, 3) := by decide +kernel
theorem dX5_sheet_58 : decode cX5_sheet 58 = .ok (.iconst 0, 1) := by decide +kernel
theorem dX5_sheet_59 : decode cX5_sheet 59 = .ok (.goto 4, 3) := by decide +kernel
theorem dX5_sheet_62 : decode cX5_sheet 62 = .ok (.iload_n 3, 1) := by decide +kernel
theorem dX5_sheet_63 : decode cX5_sheet 63 = .ok (.invokevirtual 196, 3) := by decide +kernel
theorem dX5_sheet_66 : decode cX5_sheet 66 = .ok (.iconst 1, 1) := by decide +kernel
theorem dX5_sheet_67 : decode cX5_sheet 67 = .ok (.ireturn, 1) := by decide +kernel
theorem dX5_cell_0 : decode cX5_cell 0 = .ok (.iload_n 1, 1) := by decide +kernel
theorem dX5_cell_1 : decode cX5_cell 1 = .ok (.invokestatic 181, 3) := by decide +kernel
theorem dX5_cell_4 : decode cX5_cell 4 = .ok (.ifCond .ne 6, 3) := by decide +kernel
theorem dX5_cell_7 : decode cX5_cell 7 = .ok (.bipush (-2), 2) := by decide +kernel
theorem dX5_cell_9 : decode cX5_cell 9 = .ok (.ireturn, 1) := by decide +kernel
theorem dX5_cell_10 : decode cX5_cell 10 = .ok (.aload_n 0, 1) := by decide +kernel
theorem dX5_cell_11 : decode cX5_cell 11 = .ok (.getfield 47, 3) := by decide +kernel
theorem dX5_cell_14 : decode cX5_cell 14 = .ok (.iload_n 1, 1) := by decide +kernel
theorem dX5_cell_15 : decode cX5_cell 15 = .ok (.aaload, 1) := by decide +kernel
theorem dX5_cell_16 : decode cX5_cell 16 = .ok (.astore 4, 2) := by decide +kernel
theorem dX5_cell_18 : decode cX5_cell 18 = .ok (.aload 4, 2) := by decide +kernel
theorem dX5_cell_20 : decode cX5_cell 20 = .ok (.getfield 184, 3) := by decide +kernel
theorem dX5_cell_23 : decode cX5_cell 23 = .ok (.iconst (-1), 1) := by decide +kernel
theorem dX5_cell_24 : decode cX5_cell 24 = .ok (.if_icmp .ne 6, 3) := by decide +kernel
theorem dX5_cell_27 : decode cX5_cell 27 = .ok (.bipush (-11), 2) := by decide +kernel
theorem dX5_cell_29 : decode cX5_cell 29 = .ok (.ireturn, 1) := by decide +kernel
theorem dX5_cell_30 : decode cX5_cell 30 = .ok (.aload 4, 2) := by decide +kernel
theorem dX5_cell_32 : decode cX5_cell 32 = .ok (.iload_n 2, 1) := by decide +kernel
theorem dX5_cell_33 : decode cX5_cell 33 = .ok (.invokevirtual 209, 3) := by decide +kernel
theorem dX5_cell_36 : decode cX5_cell 36 = .ok (.ifCond .ne 6, 3) := by decide +kernel
theorem dX5_cell_39 : decode cX5_cell 39 = .ok (.bipush (-12), 2) := by decide +kernel
theorem dX5_cell_41 : decode cX5_cell 41 = .ok (.ireturn, 1) := by decide +kernel
theorem dX5_cell_42 : decode cX5_cell 42 = .ok (.aload 4, 2) := by decide +kernel
theorem dX5_cell_44 : decode cX5_cell 44 = .ok (.iload_n 2, 1) := by decide +kernel
theorem dX5_cell_45 : decode cX5_cell 45 = .ok (.iload_n 3, 1) := by decide +kernel
theorem dX5_cell_46 : decode cX5_cell 46 = .ok (.invokevirtual 199, 3) := by decide +kernel
theorem dX5_cell_49 : decode cX5_cell 49 = .ok (.iconst 1, 1) := by decide +kernel
theorem dX5_cell_50 : decode cX5_cell 50 = .ok (.ireturn, 1) := by decide +kernel
theorem dX5_copy_0 : decode cX5_copy 0 = .ok (.iload_n 1, 1) := by decide +kernel
theorem dX5_copy_1 : decode cX5_copy 1 = .ok (.invokestatic 181, 3) := by decide +kernel
theorem dX5_copy_4 : decode cX5_copy 4 = .ok (.ifCond .eq 10, 3) := by decide +kernel
theorem dX5_copy_7 : decode cX5_copy 7 = .ok (.iload_n 3, 1) := by decide +kernel
theorem dX5_copy_8 : decode cX5_copy 8 = .ok (.invokestatic 181, 3) := by decide +kernel
theorem dX5_copy_11 : decode cX5_copy 11 = .ok (.ifCond .ne 6, 3) := by decide +kernel
theorem dX5_copy_14 : decode cX5_copy 14 = .ok (.bipush (-2), 2) := by decide +kernel
theorem dX5_copy_16 : decode cX5_copy 16 = .ok (.ireturn, 1) := by decide +kernel
theorem dX5_copy_17 : decode cX5_copy 17 = .ok (.aload_n 0, 1) := by decide +kernel
theorem dX5_copy_18 : decode cX5_copy 18 = .ok (.getfield 47, 3) := by decide +kernel
theorem dX5_copy_21 : decode cX5_copy 21 = .ok (.iload_n 1, 1) := by decide +kernel
theorem dX5_copy_22 : decode cX5_copy 22 = .ok (.aaload, 1) := by decide +kernel
theorem dX5_copy_23 : decode cX5_copy 23 = .ok (.astore 6, 2) := by decide +kernel
theorem dX5_copy_25 : decode cX5_copy 25 = .ok (.aload_n 0, 1) := by decide +kernel
theorem dX5_copy_26 : decode cX5_copy 26 = .ok (.getfield 47, 3) := by decide +kernel
theorem dX5_copy_29 : decode cX5_copy 29 = .ok (.iload_n 3, 1) := by decide +kernel
theorem dX5_copy_30 : decode cX5_copy 30 = .ok (.aaload, 1) := by decide +kernel
theorem dX5_copy_31 : decode cX5_copy 31 = .ok (.astore 7, 2) := by decide +kernel
theorem dX5_copy_33 : decode cX5_copy 33 = .ok (.aload 6, 2) := by decide +kernel
theorem dX5_copy_35 : decode cX5_copy 35 = .ok (.getfield 184, 3) := by decide +kernel
theorem dX5_copy_38 : decode cX5_copy 38 = .ok (.iconst (-1), 1) := by decide +kernel
theorem dX5_copy_39 : decode cX5_copy 39 = .ok (.if_icmp .eq 12, 3) := by decide +kernel
theorem dX5_copy_42 : decode cX5_copy 42 = .ok (.aload 7, 2) := by decide +kernel
theorem dX5_copy_44 : decode cX5_copy 44 = .ok (.getfield 184, 3) := by decide +kernel
theorem dX5_copy_47 : decode cX5_copy 47 = .ok (.iconst (-1), 1) := by decide +kernel
theorem dX5_copy_48 : decode cX5_copy 48 = .ok (.if_icmp .ne 6, 3) := by decide +kernel
theorem dX5_copy_51 : decode cX5_copy 51 = .ok (.bipush (-11), 2) := by decide +kernel
theorem dX5_copy_53 : decode cX5_copy 53 = .ok (.ireturn, 1) := by decide +kernel
theorem dX5_copy_54 : decode cX5_copy 54 = .ok (.aload 6, 2) := by decide +kernel
theorem dX5_copy_56 : decode cX5_copy 56 = .ok (.getfield 184, 3) := by decide +kernel
theorem dX5_copy_59 : decode cX5_copy 59 = .ok (.aload 7, 2) := by decide +kernel
theorem dX5_copy_61 : decode cX5_copy 61 = .ok (.getfield 184, 3) := by decide +kernel
theorem dX5_copy_64 : decode cX5_copy 64 = .ok (.if_icmp .eq 6, 3) := by decide +kernel
theorem dX5_copy_67 : decode cX5_copy 67 = .ok (.bipush (-13), 2) := by decide +kernel
theorem dX5_copy_69 : decode cX5_copy 69 = .ok (.ireturn, 1) := by decide +kernel
theorem dX5_copy_70 : decode cX5_copy 70 = .ok (.aload 6, 2) := by decide +kernel
theorem dX5_copy_72 : decode cX5_copy 72 = .ok (.iload_n 2, 1) := by decide +kernel
theorem dX5_copy_73 : decode cX5_copy 73 = .ok (.iload 5, 2) := by decide +kernel
theorem dX5_copy_75 : decode cX5_copy 75 = .ok (.invokevirtual 210, 3) := by decide +kernel
theorem dX5_copy_78 : decode cX5_copy 78 = .ok (.ifCond .eq 15, 3) := by decide +kernel
theorem dX5_copy_81 : decode cX5_copy 81 = .ok (.aload 7, 2) := by decide +kernel
theorem dX5_copy_83 : decode cX5_copy 83 = .ok (.iload 4, 2) := by decide +kernel
theorem dX5_copy_85 : decode cX5_copy 85 = .ok (.iload 5, 2) := by decide +kernel
theorem dX5_copy_87 : decode cX5_copy 87 = .ok (.invokevirtual 210, 3) := by decide +kernel
theorem dX5_copy_90 : decode cX5_copy 90 = .ok (.ifCond .ne 6, 3) := by decide +kernel
theorem dX5_copy_93 : decode cX5_copy 93 = .ok (.bipush (-12), 2) := by decide +kernel
theorem dX5_copy_95 : decode cX5_copy 95 = .ok (.ireturn, 1) := by decide +kernel
theorem dX5_copy_96 : decode cX5_copy 96 = .ok (.aload 6, 2) := by decide +kernel
theorem dX5_copy_98 : decode cX5_copy 98 = .ok (.getfield 214, 3) := by decide +kernel
theorem dX5_copy_101 : decode cX5_copy 101 = .ok (.iload_n 2, 1) := by decide +kernel
theorem dX5_copy_102 : decode cX5_copy 102 = .ok (.aload 7, 2) := by decide +kernel
theorem dX5_copy_104 : decode cX5_copy 104 = .ok (.getfield 214, 3) := by decide +kernel
theorem dX5_copy_107 : decode cX5_copy 107 = .ok (.iload 4, 2) := by decide +kernel
theorem dX5_copy_109 : decode cX5_copy 109 = .ok (.iload 5, 2) := by decide +kernel
theorem dX5_copy_111 : decode cX5_copy 111 = .ok (.invokestatic 218, 3) := by decide +kernel
theorem dX5_copy_114 : decode cX5_copy 114 = .ok (.iload 5, 2) := by decide +kernel
theorem dX5_copy_116 : decode cX5_copy 116 = .ok (.ireturn, 1) := by decide +kernel
theorem dX5_chain_0 : decode cX5_chain 0 = .ok (.iload_n 1, 1) := by decide +kernel
theorem dX5_chain_1 : decode cX5_chain 1 = .ok (.invokestatic 181, 3) := by decide +kernel
theorem dX5_chain_4 : decode cX5_chain 4 = .ok (.ifCond .eq 24, 3) := by decide +kernel
theorem dX5_chain_7 : decode cX5_chain 7 = .ok (.iload_n 2, 1) := by decide +kernel
theorem dX5_chain_8 : decode cX5_chain 8 = .ok (.ifCond .lt 20, 3) := by decide +kernel
theorem dX5_chain_11 : decode cX5_chain 11 = .ok (.iload_n 2, 1) := by decide +kernel
theorem dX5_chain_12 : decode cX5_chain 12 = .ok (.iconst 2, 1) := by decide +kernel
theorem dX5_chain_13 : decode cX5_chain 13 = .ok (.if_icmp .gt 15, 3) := by decide +kernel
theorem dX5_chain_16 : decode cX5_chain 16 = .ok (.iload 4, 2) := by decide +kernel
theorem dX5_chain_18 : decode cX5_chain 18 = .ok (.ifCond .lt 10, 3) := by decide +kernel
theorem dX5_chain_21 : decode cX5_chain 21 = .ok (.iload 4, 2) := by decide +kernel
theorem dX5_chain_23 : decode cX5_chain 23 = .ok (.bipush 6, 2) := by decide +kernel
theorem dX5_chain_25 : decode cX5_chain 25 = .ok (.if_icmp .le 6, 3) := by decide +kernel
theorem dX5_chain_28 : decode cX5_chain 28 = .ok (.bipush (-2), 2) := by decide +kernel
theorem dX5_chain_30 : decode cX5_chain 30 = .ok (.ireturn, 1) := by decide +kernel
theorem dX5_chain_31 : decode cX5_chain 31 = .ok (.aload_n 0, 1) := by decide +kernel
theorem dX5_chain_32 : decode cX5_chain 32 = .ok (.getfield 47, 3) := by decide +kernel
theorem dX5_chain_35 : decode cX5_chain 35 = .ok (.iload_n 1, 1) := by decide +kernel
theorem dX5_chain_36 : decode cX5_chain 36 = .ok (.aaload, 1) := by decide +kernel
theorem dX5_chain_37 : decode cX5_chain 37 = .ok (.astore 5, 2) := by decide +kernel
theorem dX5_chain_39 : decode cX5_chain 39 = .ok (.aload 5, 2) := by decide +kernel
theorem dX5_chain_41 : decode cX5_chain 41 = .ok (.getfield 184, 3) := by decide +kernel
theorem dX5_chain_44 : decode cX5_chain 44 = .ok (.iconst (-1), 1) := by decide +kernel
theorem dX5_chain_45 : decode cX5_chain 45 = .ok (.if_icmp .ne 6, 3) := by decide +kernel
theorem dX5_chain_48 : decode cX5_chain 48 = .ok (.bipush (-11), 2) := by decide +kernel
theorem dX5_chain_50 : decode cX5_chain 50 = .ok (.ireturn, 1) := by decide +kernel
theorem dX5_chain_51 : decode cX5_chain 51 = .ok (.aload 5, 2) := by decide +kernel
theorem dX5_chain_53 : decode cX5_chain 53 = .ok (.getfield 184, 3) := by decide +kernel
theorem dX5_chain_56 : decode cX5_chain 56 = .ok (.iload_n 2, 1) := by decide +kernel
theorem dX5_chain_57 : decode cX5_chain 57 = .ok (.if_icmp .eq 6, 3) := by decide +kernel
theorem dX5_chain_60 : decode cX5_chain 60 = .ok (.bipush (-13), 2) := by decide +kernel
theorem dX5_chain_62 : decode cX5_chain 62 = .ok (.ireturn, 1) := by decide +kernel
theorem dX5_chain_63 : decode cX5_chain 63 = .ok (.iconst 0, 1) := by decide +kernel
theorem dX5_chain_64 : decode cX5_chain 64 = .ok (.istore 6, 2) := by decide +kernel
theorem dX5_chain_66 : decode cX5_chain 66 = .ok (.iload_n 3, 1) := by decide +kernel
theorem dX5_chain_67 : decode cX5_chain 67 = .ok (.istore 7, 2) := by decide +kernel
theorem dX5_chain_69 : decode cX5_chain 69 = .ok (.iconst 0, 1) := by decide +kernel
theorem dX5_chain_70 : decode cX5_chain 70 = .ok (.istore 8, 2) := by decide +kernel
theorem dX5_chain_72 : decode cX5_chain 72 = .ok (.iload 8, 2) := by decide +kernel
theorem dX5_chain_74 : decode cX5_chain 74 = .ok (.iload 4, 2) := by decide +kernel
theorem dX5_chain_76 : decode cX5_chain 76 = .ok (.if_icmp .ge 67, 3) := by decide +kernel
theorem dX5_chain_79 : decode cX5_chain 79 = .ok (.aload 5, 2) := by decide +kernel
theorem dX5_chain_81 : decode cX5_chain 81 = .ok (.iload 7, 2) := by decide +kernel
theorem dX5_chain_83 : decode cX5_chain 83 = .ok (.iconst 3, 1) := by decide +kernel
theorem dX5_chain_84 : decode cX5_chain 84 = .ok (.invokevirtual 210, 3) := by decide +kernel
theorem dX5_chain_87 : decode cX5_chain 87 = .ok (.ifCond .ne 6, 3) := by decide +kernel
theorem dX5_chain_90 : decode cX5_chain 90 = .ok (.bipush (-12), 2) := by decide +kernel
theorem dX5_chain_92 : decode cX5_chain 92 = .ok (.ireturn, 1) := by decide +kernel
theorem dX5_chain_93 : decode cX5_chain 93 = .ok (.aload_n 0, 1) := by decide +kernel
theorem dX5_chain_94 : decode cX5_chain 94 = .ok (.getfield 28, 3) := by decide +kernel
theorem dX5_chain_97 : decode cX5_chain 97 = .ok (.aload 5, 2) := by decide +kernel
theorem dX5_chain_99 : decode cX5_chain 99 = .ok (.getfield 214, 3) := by decide +kernel
theorem dX5_chain_102 : decode cX5_chain 102 = .ok (.iload 7, 2) := by decide +kernel
theorem dX5_chain_104 : decode cX5_chain 104 = .ok (.iaload, 1) := by decide +kernel
theorem dX5_chain_105 : decode cX5_chain 105 = .ok (.aload 5, 2) := by decide +kernel
theorem dX5_chain_107 : decode cX5_chain 107 = .ok (.getfield 214, 3) := by decide +kernel
theorem dX5_chain_110 : decode cX5_chain 110 = .ok (.iload 7, 2) := by decide +kernel
theorem dX5_chain_112 : decode cX5_chain 112 = .ok (.iconst 1, 1) := by decide +kernel
theorem dX5_chain_113 : decode cX5_chain 113 = .ok (.iadd, 1) := by decide +kernel
theorem dX5_chain_114 : decode cX5_chain 114 = .ok (.iaload, 1) := by decide +kernel
theorem dX5_chain_115 : decode cX5_chain 115 = .ok (.aload 5, 2) := by decide +kernel
theorem dX5_chain_117 : decode cX5_chain 117 = .ok (.getfield 214, 3) := by decide +kernel
theorem dX5_chain_120 : decode cX5_chain 120 = .ok (.iload 7, 2) := by decide +kernel
theorem dX5_chain_122 : decode cX5_chain 122 = .ok (.iconst 2, 1) := by decide +kernel
theorem dX5_chain_123 : decode cX5_chain 123 = .ok (.iadd, 1) := by decide +kernel
theorem dX5_chain_124 : decode cX5_chain 124 = .ok (.iaload, 1) := by decide +kernel
theorem dX5_chain_125 : decode cX5_chain 125 = .ok (.invokevirtual 86, 3) := by decide +kernel
theorem dX5_chain_128 : decode cX5_chain 128 = .ok (.ifCond .lt 6, 3) := by decide +kernel
theorem dX5_chain_131 : decode cX5_chain 131 = .ok (.iinc 6 1, 3) := by decide +kernel
theorem dX5_chain_134 : decode cX5_chain 134 = .ok (.iinc 7 3, 3) := by decide +kernel
theorem dX5_chain_137 : decode cX5_chain 137 = .ok (.iinc 8 1, 3) := by decide +kernel
theorem dX5_chain_140 : decode cX5_chain 140 = .ok (.goto (-68), 3) := by decide +kernel
theorem dX5_chain_143 : decode cX5_chain 143 = .ok (.iload 6, 2) := by decide +kernel
theorem dX5_chain_145 : decode cX5_chain 145 = .ok (.ireturn, 1) := by decide +kernel
theorem dX5_taken_0 : decode cX5_taken 0 = .ok (.iload_n 2, 1) := by decide +kernel
theorem dX5_taken_1 : decode cX5_taken 1 = .ok (.ifCond .lt 9, 3) := by decide +kernel
theorem dX5_taken_4 : decode cX5_taken 4 = .ok (.iload_n 2, 1) := by decide +kernel
theorem dX5_taken_5 : decode cX5_taken 5 = .ok (.bipush 6, 2) := by decide +kernel
theorem dX5_taken_7 : decode cX5_taken 7 = .ok (.if_icmp .lt 6, 3) := by decide +kernel
theorem dX5_taken_10 : decode cX5_taken 10 = .ok (.bipush (-2), 2) := by decide +kernel
theorem dX5_taken_12 : decode cX5_taken 12 = .ok (.ireturn, 1) := by decide +kernel
theorem dX5_taken_13 : decode cX5_taken 13 = .ok (.aload_n 0, 1) := by decide +kernel
theorem dX5_taken_14 : decode cX5_taken 14 = .ok (.getfield 28, 3) := by decide +kernel
theorem dX5_taken_17 : decode cX5_taken 17 = .ok (.iload_n 1, 1) := by decide +kernel
theorem dX5_taken_18 : decode cX5_taken 18 = .ok (.invokevirtual 75, 3) := by decide +kernel
theorem dX5_taken_21 : decode cX5_taken 21 = .ok (.ifCond .ne 6, 3) := by decide +kernel
theorem dX5_taken_24 : decode cX5_taken 24 = .ok (.bipush (-11), 2) := by decide +kernel
theorem dX5_taken_26 : decode cX5_taken 26 = .ok (.ireturn, 1) := by decide +kernel
theorem dX5_taken_27 : decode cX5_taken 27 = .ok (.aload_n 0, 1) := by decide +kernel
theorem dX5_taken_28 : decode cX5_taken 28 = .ok (.getfield 28, 3) := by decide +kernel
theorem dX5_taken_31 : decode cX5_taken 31 = .ok (.iconst 4, 1) := by decide +kernel
theorem dX5_taken_32 : decode cX5_taken 32 = .ok (.iload_n 1, 1) := by decide +kernel
theorem dX5_taken_33 : decode cX5_taken 33 = .ok (.invokevirtual 78, 3) := by decide +kernel
theorem dX5_taken_36 : decode cX5_taken 36 = .ok (.iload_n 2, 1) := by decide +kernel
theorem dX5_taken_37 : decode cX5_taken 37 = .ok (.invokestatic 224, 3) := by decide +kernel
theorem dX5_taken_40 : decode cX5_taken 40 = .ok (.ifCond .eq 15, 3) := by decide +kernel
theorem dX5_taken_43 : decode cX5_taken 43 = .ok (.aload_n 0, 1) := by decide +kernel
theorem dX5_taken_44 : decode cX5_taken 44 = .ok (.getfield 28, 3) := by decide +kernel
theorem dX5_taken_47 : decode cX5_taken 47 = .ok (.iconst 2, 1) := by decide +kernel
theorem dX5_taken_48 : decode cX5_taken 48 = .ok (.iload_n 1, 1) := by decide +kernel
theorem dX5_taken_49 : decode cX5_taken 49 = .ok (.invokevirtual 78, 3) := by decide +kernel
theorem dX5_taken_52 : decode cX5_taken 52 = .ok (.goto 5, 3) := by decide +kernel
theorem dX5_taken_55 : decode cX5_taken 55 = .ok (.bipush (-13), 2) := by decide +kernel
theorem dX5_taken_57 : decode cX5_taken 57 = .ok (.ireturn, 1) := by decide +kernel
theorem dX5_isSheet_0 : decode cX5_isSheet 0 = .ok (.iload_n 0, 1) := by decide +kernel
theorem dX5_isSheet_1 : decode cX5_isSheet 1 = .ok (.ifCond .lt 12, 3) := by decide +kernel
theorem dX5_isSheet_4 : decode cX5_isSheet 4 = .ok (.iload_n 0, 1) := by decide +kernel
theorem dX5_isSheet_5 : decode cX5_isSheet 5 = .ok (.iconst 4, 1) := by decide +kernel
theorem dX5_isSheet_6 : decode cX5_isSheet 6 = .ok (.if_icmp .ge 7, 3) := by decide +kernel
theorem dX5_isSheet_9 : decode cX5_isSheet 9 = .ok (.iconst 1, 1) := by decide +kernel
theorem dX5_isSheet_10 : decode cX5_isSheet 10 = .ok (.goto 4, 3) := by decide +kernel
theorem dX5_isSheet_13 : decode cX5_isSheet 13 = .ok (.iconst 0, 1) := by decide +kernel
theorem dX5_isSheet_14 : decode cX5_isSheet 14 = .ok (.ireturn, 1) := by decide +kernel
theorem dX5_greatest_0 : decode cX5_greatest 0 = .ok (.iload_n 0, 1) := by decide +kernel
theorem dX5_greatest_1 : decode cX5_greatest 1 = .ok (.ifCond .ne 9, 3) := by decide +kernel
theorem dX5_greatest_4 : decode cX5_greatest 4 = .ok (.sipush 999, 3) := by decide +kernel
theorem dX5_greatest_7 : decode cX5_greatest 7 = .ok (.goto 15, 3) := by decide +kernel
theorem dX5_greatest_10 : decode cX5_greatest 10 = .ok (.iload_n 0, 1) := by decide +kernel
theorem dX5_greatest_11 : decode cX5_greatest 11 = .ok (.iconst 2, 1) := by decide +kernel
theorem dX5_greatest_12 : decode cX5_greatest 12 = .ok (.if_icmp .ne 8, 3) := by decide +kernel
theorem dX5_greatest_15 : decode cX5_greatest 15 = .ok (.bipush 9, 2) := by decide +kernel
theorem dX5_greatest_17 : decode cX5_greatest 17 = .ok (.goto 5, 3) := by decide +kernel
theorem dX5_greatest_20 : decode cX5_greatest 20 = .ok (.bipush 99, 2) := by decide +kernel
theorem dX5_greatest_22 : decode cX5_greatest 22 = .ok (.ireturn, 1) := by decide +kernel
theorem dX5_bounded_0 : decode cX5_bounded 0 = .ok (.iload_n 0, 1) := by decide +kernel
theorem dX5_bounded_1 : decode cX5_bounded 1 = .ok (.ifCond .ge 7, 3) := by decide +kernel
theorem dX5_bounded_4 : decode cX5_bounded 4 = .ok (.iconst 0, 1) := by decide +kernel
theorem dX5_bounded_5 : decode cX5_bounded 5 = .ok (.goto 15, 3) := by decide +kernel
theorem dX5_bounded_8 : decode cX5_bounded 8 = .ok (.iload_n 0, 1) := by decide +kernel
theorem dX5_bounded_9 : decode cX5_bounded 9 = .ok (.bipush 99, 2) := by decide +kernel
theorem dX5_bounded_11 : decode cX5_bounded 11 = .ok (.if_icmp .le 8, 3) := by decide +kernel
theorem dX5_bounded_14 : decode cX5_bounded 14 = .ok (.bipush 99, 2) := by decide +kernel
theorem dX5_bounded_16 : decode cX5_bounded 16 = .ok (.goto 4, 3) := by decide +kernel
theorem dX5_bounded_19 : decode cX5_bounded 19 = .ok (.iload_n 0, 1) := by decide +kernel
theorem dX5_bounded_20 : decode cX5_bounded 20 = .ok (.ireturn, 1) := by decide +kernel
theorem dX5_isUnder_0 : decode cX5_isUnder 0 = .ok (.iload_n 0, 1) := by decide +kernel
theorem dX5_isUnder_1 : decode cX5_isUnder 1 = .ok (.istore_n 2, 1) := by decide +kernel
theorem dX5_isUnder_2 : decode cX5_isUnder 2 = .ok (.iconst 0, 1) := by decide +kernel
theorem dX5_isUnder_3 : decode cX5_isUnder 3 = .ok (.istore_n 3, 1) := by decide +kernel
theorem dX5_isUnder_4 : decode cX5_isUnder 4 = .ok (.iload_n 3, 1) := by decide +kernel
theorem dX5_isUnder_5 : decode cX5_isUnder 5 = .ok (.bipush 6, 2) := by decide +kernel
theorem dX5_isUnder_7 : decode cX5_isUnder 7 = .ok (.if_icmp .ge 32, 3) := by decide +kernel
theorem dX5_isUnder_10 : decode cX5_isUnder 10 = .ok (.iload_n 2, 1) := by decide +kernel
theorem dX5_isUnder_11 : decode cX5_isUnder 11 = .ok (.ifCond .lt 28, 3) := by decide +kernel
theorem dX5_isUnder_14 : decode cX5_isUnder 14 = .ok (.iload_n 2, 1) := by decide +kernel
theorem dX5_isUnder_15 : decode cX5_isUnder 15 = .ok (.bipush 6, 2) := by decide +kernel
theorem dX5_isUnder_17 : decode cX5_isUnder 17 = .ok (.if_icmp .ge 22, 3) := by decide +kernel
theorem dX5_isUnder_20 : decode cX5_isUnder 20 = .ok (.iload_n 2, 1) := by decide +kernel
theorem dX5_isUnder_21 : decode cX5_isUnder 21 = .ok (.iload_n 1, 1) := by decide +kernel
theorem dX5_isUnder_22 : decode cX5_isUnder 22 = .ok (.if_icmp .ne 5, 3) := by decide +kernel
theorem dX5_isUnder_25 : decode cX5_isUnder 25 = .ok (.iconst 1, 1) := by decide +kernel
theorem dX5_isUnder_26 : decode cX5_isUnder 26 = .ok (.ireturn, 1) := by decide +kernel
theorem dX5_isUnder_27 : decode cX5_isUnder 27 = .ok (.getstatic 227, 3) := by decide +kernel
theorem dX5_isUnder_30 : decode cX5_isUnder 30 = .ok (.iload_n 2, 1) := by decide +kernel
theorem dX5_isUnder_31 : decode cX5_isUnder 31 = .ok (.iaload, 1) := by decide +kernel
theorem dX5_isUnder_32 : decode cX5_isUnder 32 = .ok (.istore_n 2, 1) := by decide +kernel
theorem dX5_isUnder_33 : decode cX5_isUnder 33 = .ok (.iinc 3 1, 3) := by decide +kernel
theorem dX5_isUnder_36 : decode cX5_isUnder 36 = .ok (.goto (-32), 3) := by decide +kernel
theorem dX5_isUnder_39 : decode cX5_isUnder 39 = .ok (.iconst 0, 1) := by decide +kernel
theorem dX5_isUnder_40 : decode cX5_isUnder 40 = .ok (.ireturn, 1) := by decide +kernel
theorem dX5_lowestTerm_0 : decode cX5_lowestTerm 0 = .ok (.iload_n 0, 1) := by decide +kernel
theorem dX5_lowestTerm_1 : decode cX5_lowestTerm 1 = .ok (.istore_n 3, 1) := by decide +kernel
theorem dX5_lowestTerm_2 : decode cX5_lowestTerm 2 = .ok (.iload_n 1, 1) := by decide +kernel
theorem dX5_lowestTerm_3 : decode cX5_lowestTerm 3 = .ok (.istore 4, 2) := by decide +kernel
theorem dX5_lowestTerm_5 : decode cX5_lowestTerm 5 = .ok (.iconst 0, 1) := by decide +kernel
theorem dX5_lowestTerm_6 : decode cX5_lowestTerm 6 = .ok (.istore 5, 2) := by decide +kernel
theorem dX5_lowestTerm_8 : decode cX5_lowestTerm 8 = .ok (.iload 5, 2) := by decide +kernel
theorem dX5_lowestTerm_10 : decode cX5_lowestTerm 10 = .ok (.bipush 64, 2) := by decide +kernel
theorem dX5_lowestTerm_12 : decode cX5_lowestTerm 12 = .ok (.if_icmp .ge 27, 3) := by decide +kernel
theorem dX5_lowestTerm_15 : decode cX5_lowestTerm 15 = .ok (.iload 4, 2) := by decide +kernel
theorem dX5_lowestTerm_17 : decode cX5_lowestTerm 17 = .ok (.ifCond .eq 22, 3) := by decide +kernel
theorem dX5_lowestTerm_20 : decode cX5_lowestTerm 20 = .ok (.iload_n 3, 1) := by decide +kernel
theorem dX5_lowestTerm_21 : decode cX5_lowestTerm 21 = .ok (.iload 4, 2) := by decide +kernel
theorem dX5_lowestTerm_23 : decode cX5_lowestTerm 23 = .ok (.irem, 1) := by decide +kernel
theorem dX5_lowestTerm_24 : decode cX5_lowestTerm 24 = .ok (.istore 6, 2) := by decide +kernel
theorem dX5_lowestTerm_26 : decode cX5_lowestTerm 26 = .ok (.iload 4, 2) := by decide +kernel
theorem dX5_lowestTerm_28 : decode cX5_lowestTerm 28 = .ok (.istore_n 3, 1) := by decide +kernel
theorem dX5_lowestTerm_29 : decode cX5_lowestTerm 29 = .ok (.iload 6, 2) := by decide +kernel
theorem dX5_lowestTerm_31 : decode cX5_lowestTerm 31 = .ok (.istore 4, 2) := by decide +kernel
theorem dX5_lowestTerm_33 : decode cX5_lowestTerm 33 = .ok (.iinc 5 1, 3) := by decide +kernel
theorem dX5_lowestTerm_36 : decode cX5_lowestTerm 36 = .ok (.goto (-28), 3) := by decide +kernel
theorem dX5_lowestTerm_39 : decode cX5_lowestTerm 39 = .ok (.iload_n 2, 1) := by decide +kernel
theorem dX5_lowestTerm_40 : decode cX5_lowestTerm 40 = .ok (.ifCond .ne 7, 3) := by decide +kernel
theorem dX5_lowestTerm_43 : decode cX5_lowestTerm 43 = .ok (.iload_n 0, 1) := by decide +kernel
theorem dX5_lowestTerm_44 : decode cX5_lowestTerm 44 = .ok (.goto 4, 3) := by decide +kernel
theorem dX5_lowestTerm_47 : decode cX5_lowestTerm 47 = .ok (.iload_n 1, 1) := by decide +kernel
theorem dX5_lowestTerm_48 : decode cX5_lowestTerm 48 = .ok (.istore 5, 2) := by decide +kernel
theorem dX5_lowestTerm_50 : decode cX5_lowestTerm 50 = .ok (.iload_n 3, 1) := by decide +kernel
theorem dX5_lowestTerm_51 : decode cX5_lowestTerm 51 = .ok (.ifCond .le 11, 3) := by decide +kernel
theorem dX5_lowestTerm_54 : decode cX5_lowestTerm 54 = .ok (.iload 5, 2) := by decide +kernel
theorem dX5_lowestTerm_56 : decode cX5_lowestTerm 56 = .ok (.iload_n 3, 1) := by decide +kernel
theorem dX5_lowestTerm_57 : decode cX5_lowestTerm 57 = .ok (.idiv, 1) := by decide +kernel
theorem dX5_lowestTerm_58 : decode cX5_lowestTerm 58 = .ok (.i2l, 1) := by decide +kernel
theorem dX5_lowestTerm_59 : decode cX5_lowestTerm 59 = .ok (.goto 6, 3) := by decide +kernel
theorem dX5_lowestTerm_62 : decode cX5_lowestTerm 62 = .ok (.iload 5, 2) := by decide +kernel
theorem dX5_lowestTerm_64 : decode cX5_lowestTerm 64 = .ok (.i2l, 1) := by decide +kernel
theorem dX5_lowestTerm_65 : decode cX5_lowestTerm 65 = .ok (.lreturn, 1) := by decide +kernel
theorem dX5_readBack_0 : decode cX5_readBack 0 = .ok (.iload_n 3, 1) := by decide +kernel
theorem dX5_readBack_1 : decode cX5_readBack 1 = .ok (.invokestatic 230, 3) := by decide +kernel
theorem dX5_readBack_4 : decode cX5_readBack 4 = .ok (.istore 4, 2) := by decide +kernel
theorem dX5_readBack_6 : decode cX5_readBack 6 = .ok (.iload 4, 2) := by decide +kernel
theorem dX5_readBack_8 : decode cX5_readBack 8 = .ok (.iconst 4, 1) := by decide +kernel
theorem dX5_readBack_9 : decode cX5_readBack 9 = .ok (.if_icmp .ne 8, 3) := by decide +kernel
theorem dX5_readBack_12 : decode cX5_readBack 12 = .ok (.bipush 6, 2) := by decide +kernel
theorem dX5_readBack_14 : decode cX5_readBack 14 = .ok (.goto 27, 3) := by decide +kernel
theorem dX5_readBack_17 : decode cX5_readBack 17 = .ok (.iload 4, 2) := by decide +kernel
theorem dX5_readBack_19 : decode cX5_readBack 19 = .ok (.bipush 9, 2) := by decide +kernel
theorem dX5_readBack_21 : decode cX5_readBack 21 = .ok (.if_icmp .ne 13, 3) := by decide +kernel
theorem dX5_readBack_24 : decode cX5_readBack 24 = .ok (.aload_n 0, 1) := by decide +kernel
theorem dX5_readBack_25 : decode cX5_readBack 25 = .ok (.getfield 12, 3) := by decide +kernel
theorem dX5_readBack_28 : decode cX5_readBack 28 = .ok (.getfield 115, 3) := by decide +kernel
theorem dX5_readBack_31 : decode cX5_readBack 31 = .ok (.goto 10, 3) := by decide +kernel
theorem dX5_readBack_34 : decode cX5_readBack 34 = .ok (.iload 4, 2) := by decide +kernel
