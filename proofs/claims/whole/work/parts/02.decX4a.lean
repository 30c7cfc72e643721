theorem dX4_init_0 : decode cX4_init 0 = .ok (.aload_n 0, 1) := by decide +kernel
theorem dX4_init_1 : decode cX4_init 1 = .ok (.invokespecial 3, 3) := by decide +kernel
theorem dX4_init_4 : decode cX4_init 4 = .ok (.aload_n 0, 1) := by decide +kernel
theorem dX4_init_5 : decode cX4_init 5 = .ok (.sipush 960, 3) := by decide +kernel
theorem dX4_init_8 : decode cX4_init 8 = .ok (.newarray .int, 2) := by decide +kernel
theorem dX4_init_10 : decode cX4_init 10 = .ok (.putfield 9, 3) := by decide +kernel
theorem dX4_init_13 : decode cX4_init 13 = .ok (.aload_n 0, 1) := by decide +kernel
theorem dX4_init_14 : decode cX4_init 14 = .ok (.bipush 18, 2) := by decide +kernel
theorem dX4_init_16 : decode cX4_init 16 = .ok (.newarray .int, 2) := by decide +kernel
theorem dX4_init_18 : decode cX4_init 18 = .ok (.putfield 15, 3) := by decide +kernel
theorem dX4_init_21 : decode cX4_init 21 = .ok (.aload_n 0, 1) := by decide +kernel
theorem dX4_init_22 : decode cX4_init 22 = .ok (.bipush 64, 2) := by decide +kernel
theorem dX4_init_24 : decode cX4_init 24 = .ok (.newarray .int, 2) := by decide +kernel
theorem dX4_init_26 : decode cX4_init 26 = .ok (.putfield 18, 3) := by decide +kernel
theorem dX4_init_29 : decode cX4_init 29 = .ok (.return_, 1) := by decide +kernel
theorem dX4_begin_0 : decode cX4_begin 0 = .ok (.aload_n 0, 1) := by decide +kernel
theorem dX4_begin_1 : decode cX4_begin 1 = .ok (.aload_n 0, 1) := by decide +kernel
theorem dX4_begin_2 : decode cX4_begin 2 = .ok (.getfield 21, 3) := by decide +kernel
theorem dX4_begin_5 : decode cX4_begin 5 = .ok (.sipush 160, 3) := by decide +kernel
theorem dX4_begin_8 : decode cX4_begin 8 = .ok (.imul, 1) := by decide +kernel
theorem dX4_begin_9 : decode cX4_begin 9 = .ok (.putfield 25, 3) := by decide +kernel
theorem dX4_begin_12 : decode cX4_begin 12 = .ok (.return_, 1) := by decide +kernel
theorem dX4_put_0 : decode cX4_put 0 = .ok (.aload_n 0, 1) := by decide +kernel
theorem dX4_put_1 : decode cX4_put 1 = .ok (.getfield 25, 3) := by decide +kernel
theorem dX4_put_4 : decode cX4_put 4 = .ok (.ifCond .lt 35, 3) := by decide +kernel
theorem dX4_put_7 : decode cX4_put 7 = .ok (.aload_n 0, 1) := by decide +kernel
theorem dX4_put_8 : decode cX4_put 8 = .ok (.getfield 25, 3) := by decide +kernel
theorem dX4_put_11 : decode cX4_put 11 = .ok (.aload_n 0, 1) := by decide +kernel
theorem dX4_put_12 : decode cX4_put 12 = .ok (.getfield 9, 3) := by decide +kernel
theorem dX4_put_15 : decode cX4_put 15 = .ok (.arraylength, 1) := by decide +kernel
theorem dX4_put_16 : decode cX4_put 16 = .ok (.if_icmp .ge 23, 3) := by decide +kernel
theorem dX4_put_19 : decode cX4_put 19 = .ok (.aload_n 0, 1) := by decide +kernel
theorem dX4_put_20 : decode cX4_put 20 = .ok (.getfield 9, 3) := by decide +kernel
theorem dX4_put_23 : decode cX4_put 23 = .ok (.aload_n 0, 1) := by decide +kernel
theorem dX4_put_24 : decode cX4_put 24 = .ok (.getfield 25, 3) := by decide +kernel
theorem dX4_put_27 : decode cX4_put 27 = .ok (.iload_n 1, 1) := by decide +kernel
theorem dX4_put_28 : decode cX4_put 28 = .ok (.iastore, 1) := by decide +kernel
theorem dX4_put_29 : decode cX4_put 29 = .ok (.aload_n 0, 1) := by decide +kernel
theorem dX4_put_30 : decode cX4_put 30 = .ok (.dup, 1) := by decide +kernel
theorem dX4_put_31 : decode cX4_put 31 = .ok (.getfield 25, 3) := by decide +kernel
theorem dX4_put_34 : decode cX4_put 34 = .ok (.iconst 1, 1) := by decide +kernel
theorem dX4_put_35 : decode cX4_put 35 = .ok (.iadd, 1) := by decide +kernel
theorem dX4_put_36 : decode cX4_put 36 = .ok (.putfield 25, 3) := by decide +kernel
theorem dX4_put_39 : decode cX4_put 39 = .ok (.return_, 1) := by decide +kernel
theorem dX4_endPart_0 : decode cX4_endPart 0 = .ok (.aload_n 0, 1) := by decide +kernel
theorem dX4_endPart_1 : decode cX4_endPart 1 = .ok (.getfield 21, 3) := by decide +kernel
theorem dX4_endPart_4 : decode cX4_endPart 4 = .ok (.iconst 3, 1) := by decide +kernel
theorem dX4_endPart_5 : decode cX4_endPart 5 = .ok (.imul, 1) := by decide +kernel
theorem dX4_endPart_6 : decode cX4_endPart 6 = .ok (.iload_n 1, 1) := by decide +kernel
theorem dX4_endPart_7 : decode cX4_endPart 7 = .ok (.iadd, 1) := by decide +kernel
theorem dX4_endPart_8 : decode cX4_endPart 8 = .ok (.istore_n 2, 1) := by decide +kernel
theorem dX4_endPart_9 : decode cX4_endPart 9 = .ok (.iload_n 2, 1) := by decide +kernel
theorem dX4_endPart_10 : decode cX4_endPart 10 = .ok (.ifCond .lt 22, 3) := by decide +kernel
theorem dX4_endPart_13 : decode cX4_endPart 13 = .ok (.iload_n 2, 1) := by decide +kernel
theorem dX4_endPart_14 : decode cX4_endPart 14 = .ok (.aload_n 0, 1) := by decide +kernel
theorem dX4_endPart_15 : decode cX4_endPart 15 = .ok (.getfield 15, 3) := by decide +kernel
theorem dX4_endPart_18 : decode cX4_endPart 18 = .ok (.arraylength, 1) := by decide +kernel
theorem dX4_endPart_19 : decode cX4_endPart 19 = .ok (.if_icmp .ge 13, 3) := by decide +kernel
theorem dX4_endPart_22 : decode cX4_endPart 22 = .ok (.aload_n 0, 1) := by decide +kernel
theorem dX4_endPart_23 : decode cX4_endPart 23 = .ok (.getfield 15, 3) := by decide +kernel
theorem dX4_endPart_26 : decode cX4_endPart 26 = .ok (.iload_n 2, 1) := by decide +kernel
theorem dX4_endPart_27 : decode cX4_endPart 27 = .ok (.aload_n 0, 1) := by decide +kernel
theorem dX4_endPart_28 : decode cX4_endPart 28 = .ok (.getfield 25, 3) := by decide +kernel
theorem dX4_endPart_31 : decode cX4_endPart 31 = .ok (.iastore, 1) := by decide +kernel
theorem dX4_endPart_32 : decode cX4_endPart 32 = .ok (.return_, 1) := by decide +kernel
theorem dX4_value_0 : decode cX4_value 0 = .ok (.aload_n 2, 1) := by decide +kernel
theorem dX4_value_1 : decode cX4_value 1 = .ok (.getfield 28, 3) := by decide +kernel
theorem dX4_value_4 : decode cX4_value 4 = .ok (.istore 5, 2) := by decide +kernel
theorem dX4_value_6 : decode cX4_value 6 = .ok (.iload 5, 2) := by decide +kernel
theorem dX4_value_8 : decode cX4_value 8 = .ok (.ifCond .lt 28, 3) := by decide +kernel
theorem dX4_value_11 : decode cX4_value 11 = .ok (.iload 5, 2) := by decide +kernel
theorem dX4_value_13 : decode cX4_value 13 = .ok (.aload_n 0, 1) := by decide +kernel
theorem dX4_value_14 : decode cX4_value 14 = .ok (.getfield 21, 3) := by decide +kernel
theorem dX4_value_17 : decode cX4_value 17 = .ok (.if_icmp .ge 19, 3) := by decide +kernel
theorem dX4_value_20 : decode cX4_value 20 = .ok (.iload 5, 2) := by decide +kernel
theorem dX4_value_22 : decode cX4_value 22 = .ok (.bipush 6, 2) := by decide +kernel
theorem dX4_value_24 : decode cX4_value 24 = .ok (.if_icmp .ge 12, 3) := by decide +kernel
theorem dX4_value_27 : decode cX4_value 27 = .ok (.iload_n 1, 1) := by decide +kernel
theorem dX4_value_28 : decode cX4_value 28 = .ok (.ifCond .lt 8, 3) := by decide +kernel
theorem dX4_value_31 : decode cX4_value 31 = .ok (.iload_n 1, 1) := by decide +kernel
theorem dX4_value_32 : decode cX4_value 32 = .ok (.iconst 3, 1) := by decide +kernel
theorem dX4_value_33 : decode cX4_value 33 = .ok (.if_icmp .lt 5, 3) := by decide +kernel
theorem dX4_value_36 : decode cX4_value 36 = .ok (.iconst 0, 1) := by decide +kernel
theorem dX4_value_37 : decode cX4_value 37 = .ok (.ireturn, 1) := by decide +kernel
theorem dX4_value_38 : decode cX4_value 38 = .ok (.iload 5, 2) := by decide +kernel
theorem dX4_value_40 : decode cX4_value 40 = .ok (.iconst 3, 1) := by decide +kernel
theorem dX4_value_41 : decode cX4_value 41 = .ok (.imul, 1) := by decide +kernel
theorem dX4_value_42 : decode cX4_value 42 = .ok (.iload_n 1, 1) := by decide +kernel
theorem dX4_value_43 : decode cX4_value 43 = .ok (.iadd, 1) := by decide +kernel
theorem dX4_value_44 : decode cX4_value 44 = .ok (.istore 6, 2) := by decide +kernel
theorem dX4_value_46 : decode cX4_value 46 = .ok (.aload_n 0, 1) := by decide +kernel
theorem dX4_value_47 : decode cX4_value 47 = .ok (.getfield 15, 3) := by decide +kernel
theorem dX4_value_50 : decode cX4_value 50 = .ok (.iload 6, 2) := by decide +kernel
theorem dX4_value_52 : decode cX4_value 52 = .ok (.iaload, 1) := by decide +kernel
theorem dX4_value_53 : decode cX4_value 53 = .ok (.aload_n 0, 1) := by decide +kernel
theorem dX4_value_54 : decode cX4_value 54 = .ok (.getfield 9, 3) := by decide +kernel
theorem dX4_value_57 : decode cX4_value 57 = .ok (.arraylength, 1) := by decide +kernel
theorem dX4_value_58 : decode cX4_value 58 = .ok (.invokestatic 33, 3) := by decide +kernel
theorem dX4_value_61 : decode cX4_value 61 = .ok (.istore 7, 2) := by decide +kernel
theorem dX4_value_63 : decode cX4_value 63 = .ok (.iconst 0, 1) := by decide +kernel
theorem dX4_value_64 : decode cX4_value 64 = .ok (.istore 8, 2) := by decide +kernel
theorem dX4_value_66 : decode cX4_value 66 = .ok (.iload_n 1, 1) := by decide +kernel
theorem dX4_value_67 : decode cX4_value 67 = .ok (.ifCond .ne 12, 3) := by decide +kernel
theorem dX4_value_70 : decode cX4_value 70 = .ok (.iload 5, 2) := by decide +kernel
theorem dX4_value_72 : decode cX4_value 72 = .ok (.sipush 160, 3) := by decide +kernel
theorem dX4_value_75 : decode cX4_value 75 = .ok (.imul, 1) := by decide +kernel
theorem dX4_value_76 : decode cX4_value 76 = .ok (.goto 12, 3) := by decide +kernel
theorem dX4_value_79 : decode cX4_value 79 = .ok (.aload_n 0, 1) := by decide +kernel
theorem dX4_value_80 : decode cX4_value 80 = .ok (.getfield 15, 3) := by decide +kernel
theorem dX4_value_83 : decode cX4_value 83 = .ok (.iload 6, 2) := by decide +kernel
theorem dX4_value_85 : decode cX4_value 85 = .ok (.iconst 1, 1) := by decide +kernel
theorem dX4_value_86 : decode cX4_value 86 = .ok (.isub, 1) := by decide +kernel
theorem dX4_value_87 : decode cX4_value 87 = .ok (.iaload, 1) := by decide +kernel
theorem dX4_value_88 : decode cX4_value 88 = .ok (.istore 9, 2) := by decide +kernel
theorem dX4_value_90 : decode cX4_value 90 = .ok (.iload 9, 2) := by decide +kernel
theorem dX4_value_92 : decode cX4_value 92 = .ok (.iload 7, 2) := by decide +kernel
theorem dX4_value_94 : decode cX4_value 94 = .ok (.if_icmp .ge 151, 3) := by decide +kernel
theorem dX4_value_97 : decode cX4_value 97 = .ok (.aload_n 0, 1) := by decide +kernel
theorem dX4_value_98 : decode cX4_value 98 = .ok (.getfield 9, 3) := by decide +kernel
theorem dX4_value_101 : decode cX4_value 101 = .ok (.iload 9, 2) := by decide +kernel
theorem dX4_value_103 : decode cX4_value 103 = .ok (.iaload, 1) := by decide +kernel
theorem dX4_value_104 : decode cX4_value 104 = .ok (.istore 10, 2) := by decide +kernel
theorem dX4_value_106 : decode cX4_value 106 = .ok (.iload 10, 2) := by decide +kernel
theorem dX4_value_108 : decode cX4_value 108 = .ok (.sipush 20000, 3) := by decide +kernel
theorem dX4_value_111 : decode cX4_value 111 = .ok (.if_icmp .ge 51, 3) := by decide +kernel
theorem dX4_value_114 : decode cX4_value 114 = .ok (.iload 8, 2) := by decide +kernel
theorem dX4_value_116 : decode cX4_value 116 = .ok (.bipush 64, 2) := by decide +kernel
theorem dX4_value_118 : decode cX4_value 118 = .ok (.if_icmp .lt 5, 3) := by decide +kernel
theorem dX4_value_121 : decode cX4_value 121 = .ok (.iconst 0, 1) := by decide +kernel
theorem dX4_value_122 : decode cX4_value 122 = .ok (.ireturn, 1) := by decide +kernel
theorem dX4_value_123 : decode cX4_value 123 = .ok (.aload_n 0, 1) := by decide +kernel
theorem dX4_value_124 : decode cX4_value 124 = .ok (.getfield 18, 3) := by decide +kernel
theorem dX4_value_127 : decode cX4_value 127 = .ok (.iload 8, 2) := by decide +kernel
theorem dX4_value_129 : decode cX4_value 129 = .ok (.iload 10, 2) := by decide +kernel
theorem dX4_value_131 : decode cX4_value 131 = .ok (.sipush 10000, 3) := by decide +kernel
theorem dX4_value_134 : decode cX4_value 134 = .ok (.if_icmp .ge 8, 3) := by decide +kernel
theorem dX4_value_137 : decode cX4_value 137 = .ok (.iload 10, 2) := by decide +kernel
theorem dX4_value_139 : decode cX4_value 139 = .ok (.goto 16, 3) := by decide +kernel
theorem dX4_value_142 : decode cX4_value 142 = .ok (.aload_n 2, 1) := by decide +kernel
theorem dX4_value_143 : decode cX4_value 143 = .ok (.iload 10, 2) := by decide +kernel
theorem dX4_value_145 : decode cX4_value 145 = .ok (.sipush 10000, 3) := by decide +kernel
theorem dX4_value_148 : decode cX4_value 148 = .ok (.isub, 1) := by decide +kernel
theorem dX4_value_149 : decode cX4_value 149 = .ok (.iload_n 3, 1) := by decide +kernel
theorem dX4_value_150 : decode cX4_value 150 = .ok (.iload 4, 2) := by decide +kernel
theorem dX4_value_152 : decode cX4_value 152 = .ok (.invokevirtual 39, 3) := by decide +kernel
theorem dX4_value_155 : decode cX4_value 155 = .ok (.iastore, 1) := by decide +kernel
theorem dX4_value_156 : decode cX4_value 156 = .ok (.iinc 8 1, 3) := by decide +kernel
theorem dX4_value_159 : decode cX4_value 159 = .ok (.goto 80, 3) := by decide +kernel
theorem dX4_value_162 : decode cX4_value 162 = .ok (.iload 10, 2) := by decide +kernel
theorem dX4_value_164 : decode cX4_value 164 = .ok (.sipush 20003, 3) := by decide +kernel
theorem dX4_value_167 : decode cX4_value 167 = .ok (.if_icmp .eq 11, 3) := by decide +kernel
theorem dX4_value_170 : decode cX4_value 170 = .ok (.iload 10, 2) := by decide +kernel
theorem dX4_value_172 : decode cX4_value 172 = .ok (.sipush 20267, 3) := by decide +kernel
theorem dX4_value_175 : decode cX4_value 175 = .ok (.if_icmp .ne 7, 3) := by decide +kernel
theorem dX4_value_178 : decode cX4_value 178 = .ok (.iconst 1, 1) := by decide +kernel
theorem dX4_value_179 : decode cX4_value 179 = .ok (.goto 4, 3) := by decide +kernel
theorem dX4_value_182 : decode cX4_value 182 = .ok (.iconst 2, 1) := by decide +kernel
theorem dX4_value_183 : decode cX4_value 183 = .ok (.istore 11, 2) := by decide +kernel
theorem dX4_value_185 : decode cX4_value 185 = .ok (.iload 8, 2) := by decide +kernel
theorem dX4_value_187 : decode cX4_value 187 = .ok (.iload 11, 2) := by decide +kernel
theorem dX4_value_189 : decode cX4_value 189 = .ok (.if_icmp .ge 5, 3) := by decide +kernel
theorem dX4_value_192 : decode cX4_value 192 = .ok (.iconst 0, 1) := by decide +kernel
theorem dX4_value_193 : decode cX4_value 193 = .ok (.ireturn, 1) := by decide +kernel
theorem dX4_value_194 : decode cX4_value 194 = .ok (.iload 8, 2) := by decide +kernel
theorem dX4_value_196 : decode cX4_value 196 = .ok (.iload 11, 2) := by decide +kernel
theorem dX4_value_198 : decode cX4_value 198 = .ok (.isub, 1) := by decide +kernel
theorem dX4_value_199 : decode cX4_value 199 = .ok (.istore 8, 2) := by decide +kernel
theorem dX4_value_201 : decode cX4_value 201 = .ok (.aload_n 0, 1) := by decide +kernel
theorem dX4_value_202 : decode cX4_value 202 = .ok (.getfield 18, 3) := by decide +kernel
theorem dX4_value_205 : decode cX4_value 205 = .ok (.iload 8, 2) := by decide +kernel
theorem dX4_value_207 : decode cX4_value 207 = .ok (.iload 10, 2) := by decide +kernel
theorem dX4_value_209 : decode cX4_value 209 = .ok (.sipush 20000, 3) := by decide +kernel
theorem dX4_value_212 : decode cX4_value 212 = .ok (.isub, 1) := by decide +kernel
theorem dX4_value_213 : decode cX4_value 213 = .ok (.aload_n 0, 1) := by decide +kernel
theorem dX4_value_214 : decode cX4_value 214 = .ok (.getfield 18, 3) := by decide +kernel
theorem dX4_value_217 : decode cX4_value 217 = .ok (.iload 8, 2) := by decide +kernel
theorem dX4_value_219 : decode cX4_value 219 = .ok (.iaload, 1) := by decide +kernel
theorem dX4_value_220 : decode cX4_value 220 = .ok (.aload_n 0, 1) := by decide +kernel
theorem dX4_value_221 : decode cX4_value 221 = .ok (.getfield 18, 3) := by decide +kernel
theorem dX4_value_224 : decode cX4_value 224 = .ok (.iload 8, 2) := by decide +kernel
theorem dX4_value_226 : decode cX4_value 226 = .ok (.iload 11, 2) := by decide +kernel
theorem dX4_value_228 : decode cX4_value 228 = .ok (.iadd, 1) := by decide +kernel
theorem dX4_value_229 : decode cX4_value 229 = .ok (.iconst 1, 1) := by decide +kernel
theorem dX4_value_230 : decode cX4_value 230 = .ok (.isub, 1) := by decide +kernel
theorem dX4_value_231 : decode cX4_value 231 = .ok (.iaload, 1) := by decide +kernel
theorem dX4_value_232 : decode cX4_value 232 = .ok (.invokestatic 43, 3) := by decide +kernel
theorem dX4_value_235 : decode cX4_value 235 = .ok (.iastore, 1) := by decide +kernel
theorem dX4_value_236 : decode cX4_value 236 = .ok (.iinc 8 1, 3) := by decide +kernel
theorem dX4_value_239 : decode cX4_value 239 = .ok (.iinc 9 1, 3) := by decide +kernel
theorem dX4_value_242 : decode cX4_value 242 = .ok (.goto (-152), 3) := by decide +kernel
theorem dX4_value_245 : decode cX4_value 245 = .ok (.aload_n 0, 1) := by decide +kernel
theorem dX4_value_246 : decode cX4_value 246 = .ok (.getfield 18, 3) := by decide +kernel
theorem dX4_value_249 : decode cX4_value 249 = .ok (.iconst 0, 1) := by decide +kernel
theorem dX4_value_250 : decode cX4_value 250 = .ok (.iaload, 1) := by decide +kernel
theorem dX4_value_251 : decode cX4_value 251 = .ok (.ireturn, 1) := by decide +kernel
theorem dX4_done_0 : decode cX4_done 0 = .ok (.iload_n 0, 1) := by decide +kernel
theorem dX4_done_1 : decode cX4_done 1 = .ok (.lookupswitch 147 #[(42, 83), (43, 75), (45, 79), (60, 87), (61, 98), (265, 109), (266, 123), (267, 137)], 75) := by decide +kernel
theorem dX4_done_76 : decode cX4_done 76 = .ok (.iload_n 1, 1) := by decide +kernel
theorem dX4_done_77 : decode cX4_done 77 = .ok (.iload_n 2, 1) := by decide +kernel
theorem dX4_done_78 : decode cX4_done 78 = .ok (.iadd, 1) := by decide +kernel
theorem dX4_done_79 : decode cX4_done 79 = .ok (.ireturn, 1) := by decide +kernel
theorem dX4_done_80 : decode cX4_done 80 = .ok (.iload_n 1, 1) := by decide +kernel
theorem dX4_done_81 : decode cX4_done 81 = .ok (.iload_n 2, 1) := by decide +kernel
theorem dX4_done_82 : decode cX4_done 82 = .ok (.isub, 1) := by decide +kernel
theorem dX4_done_83 : decode cX4_done 83 = .ok (.ireturn, 1) := by decide +kernel
theorem dX4_done_84 : decode cX4_done 84 = .ok (.iload_n 1, 1) := by decide +kernel
theorem dX4_done_85 : decode cX4_done 85 = .ok (.iload_n 2, 1) := by decide +kernel
theorem dX4_done_86 : decode cX4_done 86 = .ok (.imul, 1) := by decide +kernel
theorem dX4_done_87 : decode cX4_done 87 = .ok (.ireturn, 1) := by decide +kernel
theorem dX4_done_88 : decode cX4_done 88 = .ok (.iload_n 1, 1) := by decide +kernel
theorem dX4_done_89 : decode cX4_done 89 = .ok (.iload_n 2, 1) := by decide +kernel
theorem dX4_done_90 : decode cX4_done 90 = .ok (.if_icmp .ge 7, 3) := by decide +kernel
theorem dX4_done_93 : decode cX4_done 93 = .ok (.iconst 1, 1) := by decide +kernel
theorem dX4_done_94 : decode cX4_done 94 = .ok (.goto 4, 3) := by decide +kernel
theorem dX4_done_97 : decode cX4_done 97 = .ok (.iconst 0, 1) := by decide +kernel
theorem dX4_done_98 : decode cX4_done 98 = .ok (.ireturn, 1) := by decide +kernel
theorem dX4_done_99 : decode cX4_done 99 = .ok (.iload_n 1, 1) := by decide +kernel
theorem dX4_done_100 : decode cX4_done 100 = .ok (.iload_n 2, 1) := by decide +kernel
theorem dX4_done_101 : decode cX4_done 101 = .ok (.if_icmp .ne 7, 3) := by decide +kernel
theorem dX4_done_104 : decode cX4_done 104 = .ok (.iconst 1, 1) := by decide +kernel
theorem dX4_done_105 : decode cX4_done 105 = .ok (.goto 4, 3) := by decide +kernel
theorem dX4_done_108 : decode cX4_done 108 = .ok (.iconst 0, 1) := by decide +kernel
theorem dX4_done_109 : decode cX4_done 109 = .ok (.ireturn, 1) := by decide +kernel
theorem dX4_done_110 : decode cX4_done 110 = .ok (.iload_n 1, 1) := by decide +kernel
theorem dX4_done_111 : decode cX4_done 111 = .ok (.ifCond .ne 7, 3) := by decide +kernel
theorem dX4_done_114 : decode cX4_done 114 = .ok (.iload_n 2, 1) := by decide +kernel
theorem dX4_done_115 : decode cX4_done 115 = .ok (.ifCond .eq 7, 3) := by decide +kernel
theorem dX4_done_118 : decode cX4_done 118 = .ok (.iconst 1, 1) := by decide +kernel
theorem dX4_done_119 : decode cX4_done 119 = .ok (.goto 4, 3) := by decide +kernel
theorem dX4_done_122 : decode cX4_done 122 = .ok (.iconst 0, 1) := by decide +kernel
theorem dX4_done_123 : decode cX4_done 123 = .ok (.ireturn, 1) := by decide +kernel
theorem dX4_done_124 : decode cX4_done 124 = .ok (.iload_n 1, 1) := by decide +kernel
theorem dX4_done_125 : decode cX4_done 125 = .ok (.ifCond .eq 11, 3) := by decide +kernel
theorem dX4_done_128 : decode cX4_done 128 = .ok (.iload_n 2, 1) := by decide +kernel
theorem dX4_done_129 : decode cX4_done 129 = .ok (.ifCond .eq 7, 3) := by decide +kernel
theorem dX4_done_132 : decode cX4_done 132 = .ok (.iconst 1, 1) := by decide +kernel
theorem dX4_done_133 : decode cX4_done 133 = .ok (.goto 4, 3) := by decide +kernel
theorem dX4_done_136 : decode cX4_done 136 = .ok (.iconst 0, 1) := by decide +kernel
theorem dX4_done_137 : decode cX4_done 137 = .ok (.ireturn, 1) := by decide +kernel
theorem dX4_done_138 : decode cX4_done 138 = .ok (.iload_n 1, 1) := by decide +kernel
theorem dX4_done_139 : decode cX4_done 139 = .ok (.ifCond .ne 7, 3) := by decide +kernel
theorem dX4_done_142 : decode cX4_done 142 = .ok (.iconst 1, 1) := by decide +kernel
theorem dX4_done_143 : decode cX4_done 143 = .ok (.goto 4, 3) := by decide +kernel
theorem dX4_done_146 : decode cX4_done 146 = .ok (.iconst 0, 1) := by decide +kernel
theorem dX4_done_147 : decode cX4_done 147 = .ok (.ireturn, 1) := by decide +kernel
theorem dX4_done_148 : decode cX4_done 148 = .ok (.iload_n 1, 1) := by decide +kernel
theorem dX4_done_149 : decode cX4_done 149 = .ok (.ineg, 1) := by decide +kernel
theorem dX4_done_150 : decode cX4_done 150 = .ok (.ireturn, 1) := by decide +kernel
