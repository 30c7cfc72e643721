theorem dX6_in_0 : decode cX6_in 0 = .ok (.lload_n 0, 1) := by decide +kernel
theorem dX6_in_1 : decode cX6_in 1 = .ok (.lload_n 2, 1) := by decide +kernel
theorem dX6_in_2 : decode cX6_in 2 = .ok (.lcmp, 1) := by decide +kernel
theorem dX6_in_3 : decode cX6_in 3 = .ok (.ifCond .lt 14, 3) := by decide +kernel
theorem dX6_in_6 : decode cX6_in 6 = .ok (.lload_n 0, 1) := by decide +kernel
theorem dX6_in_7 : decode cX6_in 7 = .ok (.lload 4, 2) := by decide +kernel
theorem dX6_in_9 : decode cX6_in 9 = .ok (.lcmp, 1) := by decide +kernel
theorem dX6_in_10 : decode cX6_in 10 = .ok (.ifCond .gt 7, 3) := by decide +kernel
theorem dX6_in_13 : decode cX6_in 13 = .ok (.iconst 1, 1) := by decide +kernel
theorem dX6_in_14 : decode cX6_in 14 = .ok (.goto 4, 3) := by decide +kernel
theorem dX6_in_17 : decode cX6_in 17 = .ok (.iconst 0, 1) := by decide +kernel
theorem dX6_in_18 : decode cX6_in 18 = .ok (.ireturn, 1) := by decide +kernel
theorem dX6_within_0 : decode cX6_within 0 = .ok (.iload_n 0, 1) := by decide +kernel
theorem dX6_within_1 : decode cX6_within 1 = .ok (.iload_n 1, 1) := by decide +kernel
theorem dX6_within_2 : decode cX6_within 2 = .ok (.if_icmp .ge 7, 3) := by decide +kernel
theorem dX6_within_5 : decode cX6_within 5 = .ok (.iload_n 1, 1) := by decide +kernel
theorem dX6_within_6 : decode cX6_within 6 = .ok (.goto 13, 3) := by decide +kernel
theorem dX6_within_9 : decode cX6_within 9 = .ok (.iload_n 0, 1) := by decide +kernel
theorem dX6_within_10 : decode cX6_within 10 = .ok (.iload_n 2, 1) := by decide +kernel
theorem dX6_within_11 : decode cX6_within 11 = .ok (.if_icmp .le 7, 3) := by decide +kernel
theorem dX6_within_14 : decode cX6_within 14 = .ok (.iload_n 2, 1) := by decide +kernel
theorem dX6_within_15 : decode cX6_within 15 = .ok (.goto 4, 3) := by decide +kernel
theorem dX6_within_18 : decode cX6_within 18 = .ok (.iload_n 0, 1) := by decide +kernel
theorem dX6_within_19 : decode cX6_within 19 = .ok (.ireturn, 1) := by decide +kernel
theorem dX6_init_0 : decode cX6_init 0 = .ok (.aload_n 0, 1) := by decide +kernel
theorem dX6_init_1 : decode cX6_init 1 = .ok (.invokespecial 7, 3) := by decide +kernel
theorem dX6_init_4 : decode cX6_init 4 = .ok (.aload_n 0, 1) := by decide +kernel
theorem dX6_init_5 : decode cX6_init 5 = .ok (.sipush 960, 3) := by decide +kernel
theorem dX6_init_8 : decode cX6_init 8 = .ok (.newarray .int, 2) := by decide +kernel
theorem dX6_init_10 : decode cX6_init 10 = .ok (.putfield 13, 3) := by decide +kernel
theorem dX6_init_13 : decode cX6_init 13 = .ok (.aload_n 0, 1) := by decide +kernel
theorem dX6_init_14 : decode cX6_init 14 = .ok (.bipush 6, 2) := by decide +kernel
theorem dX6_init_16 : decode cX6_init 16 = .ok (.newarray .int, 2) := by decide +kernel
theorem dX6_init_18 : decode cX6_init 18 = .ok (.putfield 17, 3) := by decide +kernel
theorem dX6_init_21 : decode cX6_init 21 = .ok (.aload_n 0, 1) := by decide +kernel
theorem dX6_init_22 : decode cX6_init 22 = .ok (.sipush 160, 3) := by decide +kernel
theorem dX6_init_25 : decode cX6_init 25 = .ok (.newarray .int, 2) := by decide +kernel
theorem dX6_init_27 : decode cX6_init 27 = .ok (.putfield 20, 3) := by decide +kernel
theorem dX6_init_30 : decode cX6_init 30 = .ok (.aload_n 0, 1) := by decide +kernel
theorem dX6_init_31 : decode cX6_init 31 = .ok (.bipush 18, 2) := by decide +kernel
theorem dX6_init_33 : decode cX6_init 33 = .ok (.newarray .int, 2) := by decide +kernel
theorem dX6_init_35 : decode cX6_init 35 = .ok (.putfield 23, 3) := by decide +kernel
theorem dX6_init_38 : decode cX6_init 38 = .ok (.aload_n 0, 1) := by decide +kernel
theorem dX6_init_39 : decode cX6_init 39 = .ok (.bipush 6, 2) := by decide +kernel
theorem dX6_init_41 : decode cX6_init 41 = .ok (.newarray .int, 2) := by decide +kernel
theorem dX6_init_43 : decode cX6_init 43 = .ok (.putfield 26, 3) := by decide +kernel
theorem dX6_init_46 : decode cX6_init 46 = .ok (.aload_n 0, 1) := by decide +kernel
theorem dX6_init_47 : decode cX6_init 47 = .ok (.bipush 6, 2) := by decide +kernel
theorem dX6_init_49 : decode cX6_init 49 = .ok (.newarray .int, 2) := by decide +kernel
theorem dX6_init_51 : decode cX6_init 51 = .ok (.putfield 29, 3) := by decide +kernel
theorem dX6_init_54 : decode cX6_init 54 = .ok (.aload_n 0, 1) := by decide +kernel
theorem dX6_init_55 : decode cX6_init 55 = .ok (.bipush 19, 2) := by decide +kernel
theorem dX6_init_57 : decode cX6_init 57 = .ok (.newarray .int, 2) := by decide +kernel
theorem dX6_init_59 : decode cX6_init 59 = .ok (.putfield 32, 3) := by decide +kernel
theorem dX6_init_62 : decode cX6_init 62 = .ok (.aload_n 0, 1) := by decide +kernel
theorem dX6_init_63 : decode cX6_init 63 = .ok (.bipush 6, 2) := by decide +kernel
theorem dX6_init_65 : decode cX6_init 65 = .ok (.newarray .int, 2) := by decide +kernel
theorem dX6_init_67 : decode cX6_init 67 = .ok (.putfield 35, 3) := by decide +kernel
theorem dX6_init_70 : decode cX6_init 70 = .ok (.aload_n 0, 1) := by decide +kernel
theorem dX6_init_71 : decode cX6_init 71 = .ok (.bipush 18, 2) := by decide +kernel
theorem dX6_init_73 : decode cX6_init 73 = .ok (.newarray .int, 2) := by decide +kernel
theorem dX6_init_75 : decode cX6_init 75 = .ok (.putfield 38, 3) := by decide +kernel
theorem dX6_init_78 : decode cX6_init 78 = .ok (.aload_n 0, 1) := by decide +kernel
theorem dX6_init_79 : decode cX6_init 79 = .ok (.bipush 6, 2) := by decide +kernel
theorem dX6_init_81 : decode cX6_init 81 = .ok (.newarray .int, 2) := by decide +kernel
theorem dX6_init_83 : decode cX6_init 83 = .ok (.putfield 41, 3) := by decide +kernel
theorem dX6_init_86 : decode cX6_init 86 = .ok (.aload_n 0, 1) := by decide +kernel
theorem dX6_init_87 : decode cX6_init 87 = .ok (.iconst (-1), 1) := by decide +kernel
theorem dX6_init_88 : decode cX6_init 88 = .ok (.putfield 44, 3) := by decide +kernel
theorem dX6_init_91 : decode cX6_init 91 = .ok (.aload_n 0, 1) := by decide +kernel
theorem dX6_init_92 : decode cX6_init 92 = .ok (.iconst 4, 1) := by decide +kernel
theorem dX6_init_93 : decode cX6_init 93 = .ok (.newarray .boolean, 2) := by decide +kernel
theorem dX6_init_95 : decode cX6_init 95 = .ok (.putfield 47, 3) := by decide +kernel
theorem dX6_init_98 : decode cX6_init 98 = .ok (.aload_n 0, 1) := by decide +kernel
theorem dX6_init_99 : decode cX6_init 99 = .ok (.iconst 4, 1) := by decide +kernel
theorem dX6_init_100 : decode cX6_init 100 = .ok (.newarray .int, 2) := by decide +kernel
theorem dX6_init_102 : decode cX6_init 102 = .ok (.putfield 51, 3) := by decide +kernel
theorem dX6_init_105 : decode cX6_init 105 = .ok (.aload_n 0, 1) := by decide +kernel
theorem dX6_init_106 : decode cX6_init 106 = .ok (.iconst 4, 1) := by decide +kernel
theorem dX6_init_107 : decode cX6_init 107 = .ok (.newarray .int, 2) := by decide +kernel
theorem dX6_init_109 : decode cX6_init 109 = .ok (.putfield 54, 3) := by decide +kernel
theorem dX6_init_112 : decode cX6_init 112 = .ok (.aload_n 0, 1) := by decide +kernel
theorem dX6_init_113 : decode cX6_init 113 = .ok (.sipush 160, 3) := by decide +kernel
theorem dX6_init_116 : decode cX6_init 116 = .ok (.newarray .int, 2) := by decide +kernel
theorem dX6_init_118 : decode cX6_init 118 = .ok (.putfield 57, 3) := by decide +kernel
theorem dX6_init_121 : decode cX6_init 121 = .ok (.aload_n 0, 1) := by decide +kernel
theorem dX6_init_122 : decode cX6_init 122 = .ok (.iconst 0, 1) := by decide +kernel
theorem dX6_init_123 : decode cX6_init 123 = .ok (.bipush 103, 2) := by decide +kernel
theorem dX6_init_125 : decode cX6_init 125 = .ok (.bipush 114, 2) := by decide +kernel
theorem dX6_init_127 : decode cX6_init 127 = .ok (.bipush 105, 2) := by decide +kernel
theorem dX6_init_129 : decode cX6_init 129 = .ok (.bipush 112, 2) := by decide +kernel
theorem dX6_init_131 : decode cX6_init 131 = .ok (.bipush 115, 2) := by decide +kernel
theorem dX6_init_133 : decode cX6_init 133 = .ok (.bipush 32, 2) := by decide +kernel
theorem dX6_init_135 : decode cX6_init 135 = .ok (.bipush 115, 2) := by decide +kernel
theorem dX6_init_137 : decode cX6_init 137 = .ok (.bipush 116, 2) := by decide +kernel
theorem dX6_init_139 : decode cX6_init 139 = .ok (.invokevirtual 60, 3) := by decide +kernel
theorem dX6_init_142 : decode cX6_init 142 = .ok (.aload_n 0, 1) := by decide +kernel
theorem dX6_init_143 : decode cX6_init 143 = .ok (.bipush 8, 2) := by decide +kernel
theorem dX6_init_145 : decode cX6_init 145 = .ok (.bipush 114, 2) := by decide +kernel
theorem dX6_init_147 : decode cX6_init 147 = .ok (.bipush 101, 2) := by decide +kernel
theorem dX6_init_149 : decode cX6_init 149 = .ok (.bipush 110, 2) := by decide +kernel
theorem dX6_init_151 : decode cX6_init 151 = .ok (.bipush 103, 2) := by decide +kernel
theorem dX6_init_153 : decode cX6_init 153 = .ok (.bipush 116, 2) := by decide +kernel
theorem dX6_init_155 : decode cX6_init 155 = .ok (.bipush 104, 2) := by decide +kernel
theorem dX6_init_157 : decode cX6_init 157 = .ok (.bipush 32, 2) := by decide +kernel
theorem dX6_init_159 : decode cX6_init 159 = .ok (.bipush 45, 2) := by decide +kernel
theorem dX6_init_161 : decode cX6_init 161 = .ok (.invokevirtual 60, 3) := by decide +kernel
theorem dX6_init_164 : decode cX6_init 164 = .ok (.aload_n 0, 1) := by decide +kernel
theorem dX6_init_165 : decode cX6_init 165 = .ok (.bipush 16, 2) := by decide +kernel
theorem dX6_init_167 : decode cX6_init 167 = .ok (.bipush 32, 2) := by decide +kernel
theorem dX6_init_169 : decode cX6_init 169 = .ok (.bipush 99, 2) := by decide +kernel
theorem dX6_init_171 : decode cX6_init 171 = .ok (.bipush 111, 2) := by decide +kernel
theorem dX6_init_173 : decode cX6_init 173 = .ok (.bipush 108, 2) := by decide +kernel
theorem dX6_init_175 : decode cX6_init 175 = .ok (.bipush 100, 2) := by decide +kernel
theorem dX6_init_177 : decode cX6_init 177 = .ok (.bipush 32, 2) := by decide +kernel
theorem dX6_init_179 : decode cX6_init 179 = .ok (.bipush 59, 2) := by decide +kernel
theorem dX6_init_181 : decode cX6_init 181 = .ok (.bipush 32, 2) := by decide +kernel
theorem dX6_init_183 : decode cX6_init 183 = .ok (.invokevirtual 60, 3) := by decide +kernel
theorem dX6_init_186 : decode cX6_init 186 = .ok (.aload_n 0, 1) := by decide +kernel
theorem dX6_init_187 : decode cX6_init 187 = .ok (.bipush 24, 2) := by decide +kernel
theorem dX6_init_189 : decode cX6_init 189 = .ok (.bipush 104, 2) := by decide +kernel
theorem dX6_init_191 : decode cX6_init 191 = .ok (.bipush 97, 2) := by decide +kernel
theorem dX6_init_193 : decode cX6_init 193 = .ok (.bipush 110, 2) := by decide +kernel
theorem dX6_init_195 : decode cX6_init 195 = .ok (.bipush 100, 2) := by decide +kernel
theorem dX6_init_197 : decode cX6_init 197 = .ok (.bipush 115, 2) := by decide +kernel
theorem dX6_init_199 : decode cX6_init 199 = .ok (.bipush 32, 2) := by decide +kernel
theorem dX6_init_201 : decode cX6_init 201 = .ok (.bipush 51, 2) := by decide +kernel
theorem dX6_init_203 : decode cX6_init 203 = .ok (.bipush 32, 2) := by decide +kernel
theorem dX6_init_205 : decode cX6_init 205 = .ok (.invokevirtual 60, 3) := by decide +kernel
theorem dX6_init_208 : decode cX6_init 208 = .ok (.aload_n 0, 1) := by decide +kernel
theorem dX6_init_209 : decode cX6_init 209 = .ok (.bipush 32, 2) := by decide +kernel
theorem dX6_init_211 : decode cX6_init 211 = .ok (.bipush 59, 2) := by decide +kernel
theorem dX6_init_213 : decode cX6_init 213 = .ok (.bipush 32, 2) := by decide +kernel
theorem dX6_init_215 : decode cX6_init 215 = .ok (.bipush 116, 2) := by decide +kernel
theorem dX6_init_217 : decode cX6_init 217 = .ok (.bipush 105, 2) := by decide +kernel
theorem dX6_init_219 : decode cX6_init 219 = .ok (.bipush 114, 2) := by decide +kernel
theorem dX6_init_221 : decode cX6_init 221 = .ok (.bipush 101, 2) := by decide +kernel
theorem dX6_init_223 : decode cX6_init 223 = .ok (.bipush 115, 2) := by decide +kernel
theorem dX6_init_225 : decode cX6_init 225 = .ok (.bipush 32, 2) := by decide +kernel
theorem dX6_init_227 : decode cX6_init 227 = .ok (.invokevirtual 60, 3) := by decide +kernel
theorem dX6_init_230 : decode cX6_init 230 = .ok (.aload_n 0, 1) := by decide +kernel
theorem dX6_init_231 : decode cX6_init 231 = .ok (.bipush 40, 2) := by decide +kernel
theorem dX6_init_233 : decode cX6_init 233 = .ok (.bipush 49, 2) := by decide +kernel
theorem dX6_init_235 : decode cX6_init 235 = .ok (.bipush 32, 2) := by decide +kernel
theorem dX6_init_237 : decode cX6_init 237 = .ok (.bipush 59, 2) := by decide +kernel
theorem dX6_init_239 : decode cX6_init 239 = .ok (.bipush 32, 2) := by decide +kernel
theorem dX6_init_241 : decode cX6_init 241 = .ok (.bipush 32, 2) := by decide +kernel
theorem dX6_init_243 : decode cX6_init 243 = .ok (.bipush 32, 2) := by decide +kernel
theorem dX6_init_245 : decode cX6_init 245 = .ok (.bipush 32, 2) := by decide +kernel
theorem dX6_init_247 : decode cX6_init 247 = .ok (.bipush 32, 2) := by decide +kernel
theorem dX6_init_249 : decode cX6_init 249 = .ok (.invokevirtual 60, 3) := by decide +kernel
theorem dX6_init_252 : decode cX6_init 252 = .ok (.aload_n 0, 1) := by decide +kernel
theorem dX6_init_253 : decode cX6_init 253 = .ok (.getfield 17, 3) := by decide +kernel
theorem dX6_init_256 : decode cX6_init 256 = .ok (.iconst 0, 1) := by decide +kernel
theorem dX6_init_257 : decode cX6_init 257 = .ok (.bipush 48, 2) := by decide +kernel
theorem dX6_init_259 : decode cX6_init 259 = .ok (.iastore, 1) := by decide +kernel
theorem dX6_init_260 : decode cX6_init 260 = .ok (.aload_n 0, 1) := by decide +kernel
theorem dX6_init_261 : decode cX6_init 261 = .ok (.iconst 1, 1) := by decide +kernel
theorem dX6_init_262 : decode cX6_init 262 = .ok (.putfield 64, 3) := by decide +kernel
theorem dX6_init_265 : decode cX6_init 265 = .ok (.return_, 1) := by decide +kernel
theorem dX6_spell_0 : decode cX6_spell 0 = .ok (.aload_n 0, 1) := by decide +kernel
theorem dX6_spell_1 : decode cX6_spell 1 = .ok (.getfield 13, 3) := by decide +kernel
theorem dX6_spell_4 : decode cX6_spell 4 = .ok (.iload_n 1, 1) := by decide +kernel
theorem dX6_spell_5 : decode cX6_spell 5 = .ok (.iload_n 2, 1) := by decide +kernel
theorem dX6_spell_6 : decode cX6_spell 6 = .ok (.iastore, 1) := by decide +kernel
theorem dX6_spell_7 : decode cX6_spell 7 = .ok (.aload_n 0, 1) := by decide +kernel
theorem dX6_spell_8 : decode cX6_spell 8 = .ok (.getfield 13, 3) := by decide +kernel
theorem dX6_spell_11 : decode cX6_spell 11 = .ok (.iload_n 1, 1) := by decide +kernel
theorem dX6_spell_12 : decode cX6_spell 12 = .ok (.iconst 1, 1) := by decide +kernel
theorem dX6_spell_13 : decode cX6_spell 13 = .ok (.iadd, 1) := by decide +kernel
theorem dX6_spell_14 : decode cX6_spell 14 = .ok (.iload_n 3, 1) := by decide +kernel
theorem dX6_spell_15 : decode cX6_spell 15 = .ok (.iastore, 1) := by decide +kernel
theorem dX6_spell_16 : decode cX6_spell 16 = .ok (.aload_n 0, 1) := by decide +kernel
theorem dX6_spell_17 : decode cX6_spell 17 = .ok (.getfield 13, 3) := by decide +kernel
theorem dX6_spell_20 : decode cX6_spell 20 = .ok (.iload_n 1, 1) := by decide +kernel
theorem dX6_spell_21 : decode cX6_spell 21 = .ok (.iconst 2, 1) := by decide +kernel
theorem dX6_spell_22 : decode cX6_spell 22 = .ok (.iadd, 1) := by decide +kernel
theorem dX6_spell_23 : decode cX6_spell 23 = .ok (.iload 4, 2) := by decide +kernel
theorem dX6_spell_25 : decode cX6_spell 25 = .ok (.iastore, 1) := by decide +kernel
theorem dX6_spell_26 : decode cX6_spell 26 = .ok (.aload_n 0, 1) := by decide +kernel
theorem dX6_spell_27 : decode cX6_spell 27 = .ok (.getfield 13, 3) := by decide +kernel
theorem dX6_spell_30 : decode cX6_spell 30 = .ok (.iload_n 1, 1) := by decide +kernel
theorem dX6_spell_31 : decode cX6_spell 31 = .ok (.iconst 3, 1) := by decide +kernel
theorem dX6_spell_32 : decode cX6_spell 32 = .ok (.iadd, 1) := by decide +kernel
theorem dX6_spell_33 : decode cX6_spell 33 = .ok (.iload 5, 2) := by decide +kernel
theorem dX6_spell_35 : decode cX6_spell 35 = .ok (.iastore, 1) := by decide +kernel
theorem dX6_spell_36 : decode cX6_spell 36 = .ok (.aload_n 0, 1) := by decide +kernel
theorem dX6_spell_37 : decode cX6_spell 37 = .ok (.getfield 13, 3) := by decide +kernel
theorem dX6_spell_40 : decode cX6_spell 40 = .ok (.iload_n 1, 1) := by decide +kernel
theorem dX6_spell_41 : decode cX6_spell 41 = .ok (.iconst 4, 1) := by decide +kernel
theorem dX6_spell_42 : decode cX6_spell 42 = .ok (.iadd, 1) := by decide +kernel
theorem dX6_spell_43 : decode cX6_spell 43 = .ok (.iload 6, 2) := by decide +kernel
theorem dX6_spell_45 : decode cX6_spell 45 = .ok (.iastore, 1) := by decide +kernel
theorem dX6_spell_46 : decode cX6_spell 46 = .ok (.aload_n 0, 1) := by decide +kernel
theorem dX6_spell_47 : decode cX6_spell 47 = .ok (.getfield 13, 3) := by decide +kernel
theorem dX6_spell_50 : decode cX6_spell 50 = .ok (.iload_n 1, 1) := by decide +kernel
theorem dX6_spell_51 : decode cX6_spell 51 = .ok (.iconst 5, 1) := by decide +kernel
theorem dX6_spell_52 : decode cX6_spell 52 = .ok (.iadd, 1) := by decide +kernel
theorem dX6_spell_53 : decode cX6_spell 53 = .ok (.iload 7, 2) := by decide +kernel
theorem dX6_spell_55 : decode cX6_spell 55 = .ok (.iastore, 1) := by decide +kernel
theorem dX6_spell_56 : decode cX6_spell 56 = .ok (.aload_n 0, 1) := by decide +kernel
theorem dX6_spell_57 : decode cX6_spell 57 = .ok (.getfield 13, 3) := by decide +kernel
theorem dX6_spell_60 : decode cX6_spell 60 = .ok (.iload_n 1, 1) := by decide +kernel
theorem dX6_spell_61 : decode cX6_spell 61 = .ok (.bipush 6, 2) := by decide +kernel
theorem dX6_spell_63 : decode cX6_spell 63 = .ok (.iadd, 1) := by decide +kernel
theorem dX6_spell_64 : decode cX6_spell 64 = .ok (.iload 8, 2) := by decide +kernel
theorem dX6_spell_66 : decode cX6_spell 66 = .ok (.iastore, 1) := by decide +kernel
theorem dX6_spell_67 : decode cX6_spell 67 = .ok (.aload_n 0, 1) := by decide +kernel
theorem dX6_spell_68 : decode cX6_spell 68 = .ok (.getfield 13, 3) := by decide +kernel
theorem dX6_spell_71 : decode cX6_spell 71 = .ok (.iload_n 1, 1) := by decide +kernel
theorem dX6_spell_72 : decode cX6_spell 72 = .ok (.bipush 7, 2) := by decide +kernel
theorem dX6_spell_74 : decode cX6_spell 74 = .ok (.iadd, 1) := by decide +kernel
theorem dX6_spell_75 : decode cX6_spell 75 = .ok (.iload 9, 2) := by decide +kernel
theorem dX6_spell_77 : decode cX6_spell 77 = .ok (.iastore, 1) := by decide +kernel
theorem dX6_spell_78 : decode cX6_spell 78 = .ok (.return_, 1) := by decide +kernel
theorem dX6_isOne_0 : decode cX6_isOne 0 = .ok (.iload_n 1, 1) := by decide +kernel
theorem dX6_isOne_1 : decode cX6_isOne 1 = .ok (.i2l, 1) := by decide +kernel
theorem dX6_isOne_2 : decode cX6_isOne 2 = .ok (.lconst 0, 1) := by decide +kernel
theorem dX6_isOne_3 : decode cX6_isOne 3 = .ok (.aload_n 0, 1) := by decide +kernel
theorem dX6_isOne_4 : decode cX6_isOne 4 = .ok (.getfield 67, 3) := by decide +kernel
theorem dX6_isOne_7 : decode cX6_isOne 7 = .ok (.iconst 1, 1) := by decide +kernel
theorem dX6_isOne_8 : decode cX6_isOne 8 = .ok (.isub, 1) := by decide +kernel
theorem dX6_isOne_9 : decode cX6_isOne 9 = .ok (.i2l, 1) := by decide +kernel
theorem dX6_isOne_10 : decode cX6_isOne 10 = .ok (.invokestatic 70, 3) := by decide +kernel
theorem dX6_isOne_13 : decode cX6_isOne 13 = .ok (.ireturn, 1) := by decide +kernel
theorem dX6_areTwo_0 : decode cX6_areTwo 0 = .ok (.aload_n 0, 1) := by decide +kernel
theorem dX6_areTwo_1 : decode cX6_areTwo 1 = .ok (.iload_n 1, 1) := by decide +kernel
theorem dX6_areTwo_2 : decode cX6_areTwo 2 = .ok (.invokevirtual 74, 3) := by decide +kernel
theorem dX6_areTwo_5 : decode cX6_areTwo 5 = .ok (.ifCond .eq 20, 3) := by decide +kernel
theorem dX6_areTwo_8 : decode cX6_areTwo 8 = .ok (.aload_n 0, 1) := by decide +kernel
theorem dX6_areTwo_9 : decode cX6_areTwo 9 = .ok (.iload_n 2, 1) := by decide +kernel
theorem dX6_areTwo_10 : decode cX6_areTwo 10 = .ok (.invokevirtual 74, 3) := by decide +kernel
theorem dX6_areTwo_13 : decode cX6_areTwo 13 = .ok (.ifCond .eq 12, 3) := by decide +kernel
theorem dX6_areTwo_16 : decode cX6_areTwo 16 = .ok (.iload_n 1, 1) := by decide +kernel
theorem dX6_areTwo_17 : decode cX6_areTwo 17 = .ok (.iload_n 2, 1) := by decide +kernel
theorem dX6_areTwo_18 : decode cX6_areTwo 18 = .ok (.if_icmp .eq 7, 3) := by decide +kernel
theorem dX6_areTwo_21 : decode cX6_areTwo 21 = .ok (.iconst 1, 1) := by decide +kernel
theorem dX6_areTwo_22 : decode cX6_areTwo 22 = .ok (.goto 4, 3) := by decide +kernel
theorem dX6_areTwo_25 : decode cX6_areTwo 25 = .ok (.iconst 0, 1) := by decide +kernel
theorem dX6_areTwo_26 : decode cX6_areTwo 26 = .ok (.ireturn, 1) := by decide +kernel
theorem dX6_isPlace_0 : decode cX6_isPlace 0 = .ok (.iload_n 1, 1) := by decide +kernel
theorem dX6_isPlace_1 : decode cX6_isPlace 1 = .ok (.i2l, 1) := by decide +kernel
theorem dX6_isPlace_2 : decode cX6_isPlace 2 = .ok (.lconst 0, 1) := by decide +kernel
theorem dX6_isPlace_3 : decode cX6_isPlace 3 = .ok (.aload_n 0, 1) := by decide +kernel
theorem dX6_isPlace_4 : decode cX6_isPlace 4 = .ok (.getfield 78, 3) := by decide +kernel
theorem dX6_isPlace_7 : decode cX6_isPlace 7 = .ok (.iconst 1, 1) := by decide +kernel
theorem dX6_isPlace_8 : decode cX6_isPlace 8 = .ok (.isub, 1) := by decide +kernel
theorem dX6_isPlace_9 : decode cX6_isPlace 9 = .ok (.i2l, 1) := by decide +kernel
theorem dX6_isPlace_10 : decode cX6_isPlace 10 = .ok (.invokestatic 70, 3) := by decide +kernel
theorem dX6_isPlace_13 : decode cX6_isPlace 13 = .ok (.ireturn, 1) := by decide +kernel
theorem dX6_isOf_0 : decode cX6_isOf 0 = .ok (.iload_n 1, 1) := by decide +kernel
theorem dX6_isOf_1 : decode cX6_isOf 1 = .ok (.iconst 2, 1) := by decide +kernel
theorem dX6_isOf_2 : decode cX6_isOf 2 = .ok (.if_icmp .ge 5, 3) := by decide +kernel
theorem dX6_isOf_5 : decode cX6_isOf 5 = .ok (.iconst 1, 1) := by decide +kernel
theorem dX6_isOf_6 : decode cX6_isOf 6 = .ok (.ireturn, 1) := by decide +kernel
theorem dX6_isOf_7 : decode cX6_isOf 7 = .ok (.iload_n 1, 1) := by decide +kernel
theorem dX6_isOf_8 : decode cX6_isOf 8 = .ok (.bipush 7, 2) := by decide +kernel
theorem dX6_isOf_10 : decode cX6_isOf 10 = .ok (.if_icmp .ge 11, 3) := by decide +kernel
theorem dX6_isOf_13 : decode cX6_isOf 13 = .ok (.aload_n 0, 1) := by decide +kernel
theorem dX6_isOf_14 : decode cX6_isOf 14 = .ok (.iload_n 2, 1) := by decide +kernel
theorem dX6_isOf_15 : decode cX6_isOf 15 = .ok (.invokevirtual 74, 3) := by decide +kernel
theorem dX6_isOf_18 : decode cX6_isOf 18 = .ok (.goto 30, 3) := by decide +kernel
theorem dX6_isOf_21 : decode cX6_isOf 21 = .ok (.aload_n 0, 1) := by decide +kernel
theorem dX6_isOf_22 : decode cX6_isOf 22 = .ok (.iload_n 2, 1) := by decide +kernel
theorem dX6_isOf_23 : decode cX6_isOf 23 = .ok (.invokevirtual 81, 3) := by decide +kernel
theorem dX6_isOf_26 : decode cX6_isOf 26 = .ok (.ifCond .eq 21, 3) := by decide +kernel
theorem dX6_isOf_29 : decode cX6_isOf 29 = .ok (.iload_n 1, 1) := by decide +kernel
theorem dX6_isOf_30 : decode cX6_isOf 30 = .ok (.bipush 7, 2) := by decide +kernel
theorem dX6_isOf_32 : decode cX6_isOf 32 = .ok (.if_icmp .eq 11, 3) := by decide +kernel
theorem dX6_isOf_35 : decode cX6_isOf 35 = .ok (.aload_n 0, 1) := by decide +kernel
theorem dX6_isOf_36 : decode cX6_isOf 36 = .ok (.getfield 78, 3) := by decide +kernel
theorem dX6_isOf_39 : decode cX6_isOf 39 = .ok (.iconst 1, 1) := by decide +kernel
theorem dX6_isOf_40 : decode cX6_isOf 40 = .ok (.if_icmp .le 7, 3) := by decide +kernel
theorem dX6_isOf_43 : decode cX6_isOf 43 = .ok (.iconst 1, 1) := by decide +kernel
theorem dX6_isOf_44 : decode cX6_isOf 44 = .ok (.goto 4, 3) := by decide +kernel
theorem dX6_isOf_47 : decode cX6_isOf 47 = .ok (.iconst 0, 1) := by decide +kernel
theorem dX6_isOf_48 : decode cX6_isOf 48 = .ok (.ireturn, 1) := by decide +kernel
theorem dX6_mostOf_0 : decode cX6_mostOf 0 = .ok (.iload_n 0, 1) := by decide +kernel
theorem dX6_mostOf_1 : decode cX6_mostOf 1 = .ok (.ifCond .ne 9, 3) := by decide +kernel
theorem dX6_mostOf_4 : decode cX6_mostOf 4 = .ok (.sipush 999, 3) := by decide +kernel
theorem dX6_mostOf_7 : decode cX6_mostOf 7 = .ok (.goto 15, 3) := by decide +kernel
theorem dX6_mostOf_10 : decode cX6_mostOf 10 = .ok (.iload_n 0, 1) := by decide +kernel
theorem dX6_mostOf_11 : decode cX6_mostOf 11 = .ok (.iconst 2, 1) := by decide +kernel
theorem dX6_mostOf_12 : decode cX6_mostOf 12 = .ok (.if_icmp .ne 8, 3) := by decide +kernel
theorem dX6_mostOf_15 : decode cX6_mostOf 15 = .ok (.bipush 9, 2) := by decide +kernel
theorem dX6_mostOf_17 : decode cX6_mostOf 17 = .ok (.goto 5, 3) := by decide +kernel
theorem dX6_mostOf_20 : decode cX6_mostOf 20 = .ok (.bipush 99, 2) := by decide +kernel
theorem dX6_mostOf_22 : decode cX6_mostOf 22 = .ok (.ireturn, 1) := by decide +kernel
theorem dX6_set_0 : decode cX6_set 0 = .ok (.iload_n 1, 1) := by decide +kernel
theorem dX6_set_1 : decode cX6_set 1 = .ok (.i2l, 1) := by decide +kernel
theorem dX6_set_2 : decode cX6_set 2 = .ok (.lconst 0, 1) := by decide +kernel
theorem dX6_set_3 : decode cX6_set 3 = .ok (.ldc2_w 84, 3) := by decide +kernel
theorem dX6_set_6 : decode cX6_set 6 = .ok (.invokestatic 70, 3) := by decide +kernel
theorem dX6_set_9 : decode cX6_set 9 = .ok (.ifCond .eq 26, 3) := by decide +kernel
theorem dX6_set_12 : decode cX6_set 12 = .ok (.aload_n 0, 1) := by decide +kernel
theorem dX6_set_13 : decode cX6_set 13 = .ok (.iload_n 1, 1) := by decide +kernel
theorem dX6_set_14 : decode cX6_set 14 = .ok (.iload_n 2, 1) := by decide +kernel
theorem dX6_set_15 : decode cX6_set 15 = .ok (.invokevirtual 86, 3) := by decide +kernel
theorem dX6_set_18 : decode cX6_set 18 = .ok (.ifCond .eq 17, 3) := by decide +kernel
theorem dX6_set_21 : decode cX6_set 21 = .ok (.iload_n 3, 1) := by decide +kernel
theorem dX6_set_22 : decode cX6_set 22 = .ok (.i2l, 1) := by decide +kernel
theorem dX6_set_23 : decode cX6_set 23 = .ok (.lconst 0, 1) := by decide +kernel
theorem dX6_set_24 : decode cX6_set 24 = .ok (.iload_n 1, 1) := by decide +kernel
theorem dX6_set_25 : decode cX6_set 25 = .ok (.invokestatic 90, 3) := by decide +kernel
theorem dX6_set_28 : decode cX6_set 28 = .ok (.i2l, 1) := by decide +kernel
theorem dX6_set_29 : decode cX6_set 29 = .ok (.invokestatic 70, 3) := by decide +kernel
theorem dX6_set_32 : decode cX6_set 32 = .ok (.ifCond .ne 6, 3) := by decide +kernel
theorem dX6_set_35 : decode cX6_set 35 = .ok (.bipush (-2), 2) := by decide +kernel
theorem dX6_set_37 : decode cX6_set 37 = .ok (.ireturn, 1) := by decide +kernel
theorem dX6_set_38 : decode cX6_set 38 = .ok (.aload_n 0, 1) := by decide +kernel
theorem dX6_set_39 : decode cX6_set 39 = .ok (.iload_n 2, 1) := by decide +kernel
theorem dX6_set_40 : decode cX6_set 40 = .ok (.iload_n 1, 1) := by decide +kernel
theorem dX6_set_41 : decode cX6_set 41 = .ok (.invokevirtual 94, 3) := by decide +kernel
theorem dX6_set_44 : decode cX6_set 44 = .ok (.istore 4, 2) := by decide +kernel
theorem dX6_set_46 : decode cX6_set 46 = .ok (.aload_n 0, 1) := by decide +kernel
theorem dX6_set_47 : decode cX6_set 47 = .ok (.iload_n 1, 1) := by decide +kernel
theorem dX6_set_48 : decode cX6_set 48 = .ok (.iload_n 2, 1) := by decide +kernel
theorem dX6_set_49 : decode cX6_set 49 = .ok (.iload_n 3, 1) := by decide +kernel
theorem dX6_set_50 : decode cX6_set 50 = .ok (.invokevirtual 98, 3) := by decide +kernel
theorem dX6_set_53 : decode cX6_set 53 = .ok (.iload 4, 2) := by decide +kernel
theorem dX6_set_55 : decode cX6_set 55 = .ok (.ireturn, 1) := by decide +kernel
theorem dX6_lays_0 : decode cX6_lays 0 = .ok (.iload_n 1, 1) := by decide +kernel
theorem dX6_lays_1 : decode cX6_lays 1 = .ok (.iconst 2, 1) := by decide +kernel
theorem dX6_lays_2 : decode cX6_lays 2 = .ok (.if_icmp .ge 39, 3) := by decide +kernel
theorem dX6_lays_5 : decode cX6_lays 5 = .ok (.aload_n 0, 1) := by decide +kernel
theorem dX6_lays_6 : decode cX6_lays 6 = .ok (.iload_n 1, 1) := by decide +kernel
theorem dX6_lays_7 : decode cX6_lays 7 = .ok (.ifCond .ne 7, 3) := by decide +kernel
theorem dX6_lays_10 : decode cX6_lays 10 = .ok (.iload_n 3, 1) := by decide +kernel
theorem dX6_lays_11 : decode cX6_lays 11 = .ok (.goto 7, 3) := by decide +kernel
theorem dX6_lays_14 : decode cX6_lays 14 = .ok (.aload_n 0, 1) := by decide +kernel
theorem dX6_lays_15 : decode cX6_lays 15 = .ok (.getfield 102, 3) := by decide +kernel
theorem dX6_lays_18 : decode cX6_lays 18 = .ok (.putfield 102, 3) := by decide +kernel
theorem dX6_lays_21 : decode cX6_lays 21 = .ok (.aload_n 0, 1) := by decide +kernel
theorem dX6_lays_22 : decode cX6_lays 22 = .ok (.iload_n 1, 1) := by decide +kernel
theorem dX6_lays_23 : decode cX6_lays 23 = .ok (.iconst 1, 1) := by decide +kernel
theorem dX6_lays_24 : decode cX6_lays 24 = .ok (.if_icmp .ne 7, 3) := by decide +kernel
theorem dX6_lays_27 : decode cX6_lays 27 = .ok (.iload_n 3, 1) := by decide +kernel
theorem dX6_lays_28 : decode cX6_lays 28 = .ok (.goto 7, 3) := by decide +kernel
theorem dX6_lays_31 : decode cX6_lays 31 = .ok (.aload_n 0, 1) := by decide +kernel
theorem dX6_lays_32 : decode cX6_lays 32 = .ok (.getfield 105, 3) := by decide +kernel
theorem dX6_lays_35 : decode cX6_lays 35 = .ok (.putfield 105, 3) := by decide +kernel
theorem dX6_lays_38 : decode cX6_lays 38 = .ok (.goto 29, 3) := by decide +kernel
theorem dX6_lays_41 : decode cX6_lays 41 = .ok (.iload_n 1, 1) := by decide +kernel
theorem dX6_lays_42 : decode cX6_lays 42 = .ok (.iconst 5, 1) := by decide +kernel
theorem dX6_lays_43 : decode cX6_lays 43 = .ok (.if_icmp .ge 19, 3) := by decide +kernel
theorem dX6_lays_46 : decode cX6_lays 46 = .ok (.aload_n 0, 1) := by decide +kernel
theorem dX6_lays_47 : decode cX6_lays 47 = .ok (.getfield 23, 3) := by decide +kernel
theorem dX6_lays_50 : decode cX6_lays 50 = .ok (.iconst 3, 1) := by decide +kernel
theorem dX6_lays_51 : decode cX6_lays 51 = .ok (.iload_n 2, 1) := by decide +kernel
theorem dX6_lays_52 : decode cX6_lays 52 = .ok (.imul, 1) := by decide +kernel
theorem dX6_lays_53 : decode cX6_lays 53 = .ok (.iload_n 1, 1) := by decide +kernel
theorem dX6_lays_54 : decode cX6_lays 54 = .ok (.iadd, 1) := by decide +kernel
theorem dX6_lays_55 : decode cX6_lays 55 = .ok (.iconst 2, 1) := by decide +kernel
theorem dX6_lays_56 : decode cX6_lays 56 = .ok (.isub, 1) := by decide +kernel
theorem dX6_lays_57 : decode cX6_lays 57 = .ok (.iload_n 3, 1) := by decide +kernel
theorem dX6_lays_58 : decode cX6_lays 58 = .ok (.iastore, 1) := by decide +kernel
theorem dX6_lays_59 : decode cX6_lays 59 = .ok (.goto 8, 3) := by decide +kernel
theorem dX6_lays_62 : decode cX6_lays 62 = .ok (.aload_n 0, 1) := by decide +kernel
theorem dX6_lays_63 : decode cX6_lays 63 = .ok (.iload_n 3, 1) := by decide +kernel
theorem dX6_lays_64 : decode cX6_lays 64 = .ok (.putfield 108, 3) := by decide +kernel
theorem dX6_lays_67 : decode cX6_lays 67 = .ok (.return_, 1) := by decide +kernel
theorem dX6_man_0 : decode cX6_man 0 = .ok (.iload_n 1, 1) := by decide +kernel
theorem dX6_man_1 : decode cX6_man 1 = .ok (.i2l, 1) := by decide +kernel
theorem dX6_man_2 : decode cX6_man 2 = .ok (.lconst 0, 1) := by decide +kernel
theorem dX6_man_3 : decode cX6_man 3 = .ok (.ldc2_w 111, 3) := by decide +kernel
theorem dX6_man_6 : decode cX6_man 6 = .ok (.invokestatic 70, 3) := by decide +kernel
theorem dX6_man_9 : decode cX6_man 9 = .ok (.ifCond .eq 27, 3) := by decide +kernel
theorem dX6_man_12 : decode cX6_man 12 = .ok (.iload_n 2, 1) := by decide +kernel
theorem dX6_man_13 : decode cX6_man 13 = .ok (.i2l, 1) := by decide +kernel
theorem dX6_man_14 : decode cX6_man 14 = .ok (.lconst 0, 1) := by decide +kernel
theorem dX6_man_15 : decode cX6_man 15 = .ok (.ldc2_w 113, 3) := by decide +kernel
theorem dX6_man_18 : decode cX6_man 18 = .ok (.invokestatic 70, 3) := by decide +kernel
theorem dX6_man_21 : decode cX6_man 21 = .ok (.ifCond .eq 15, 3) := by decide +kernel
theorem dX6_man_24 : decode cX6_man 24 = .ok (.iload_n 3, 1) := by decide +kernel
theorem dX6_man_25 : decode cX6_man 25 = .ok (.i2l, 1) := by decide +kernel
theorem dX6_man_26 : decode cX6_man 26 = .ok (.lconst 0, 1) := by decide +kernel
theorem dX6_man_27 : decode cX6_man 27 = .ok (.ldc2_w 115, 3) := by decide +kernel
theorem dX6_man_30 : decode cX6_man 30 = .ok (.invokestatic 70, 3) := by decide +kernel
theorem dX6_man_33 : decode cX6_man 33 = .ok (.ifCond .ne 6, 3) := by decide +kernel
theorem dX6_man_36 : decode cX6_man 36 = .ok (.bipush (-2), 2) := by decide +kernel
theorem dX6_man_38 : decode cX6_man 38 = .ok (.ireturn, 1) := by decide +kernel
theorem dX6_man_39 : decode cX6_man 39 = .ok (.aload_n 0, 1) := by decide +kernel
theorem dX6_man_40 : decode cX6_man 40 = .ok (.getfield 67, 3) := by decide +kernel
theorem dX6_man_43 : decode cX6_man 43 = .ok (.bipush 6, 2) := by decide +kernel
theorem dX6_man_45 : decode cX6_man 45 = .ok (.if_icmp .ne 6, 3) := by decide +kernel
theorem dX6_man_48 : decode cX6_man 48 = .ok (.bipush (-4), 2) := by decide +kernel
theorem dX6_man_50 : decode cX6_man 50 = .ok (.ireturn, 1) := by decide +kernel
theorem dX6_man_51 : decode cX6_man 51 = .ok (.aload_n 0, 1) := by decide +kernel
theorem dX6_man_52 : decode cX6_man 52 = .ok (.getfield 23, 3) := by decide +kernel
theorem dX6_man_55 : decode cX6_man 55 = .ok (.iconst 3, 1) := by decide +kernel
theorem dX6_man_56 : decode cX6_man 56 = .ok (.aload_n 0, 1) := by decide +kernel
theorem dX6_man_57 : decode cX6_man 57 = .ok (.getfield 67, 3) := by decide +kernel
theorem dX6_man_60 : decode cX6_man 60 = .ok (.imul, 1) := by decide +kernel
theorem dX6_man_61 : decode cX6_man 61 = .ok (.iload_n 2, 1) := by decide +kernel
theorem dX6_man_62 : decode cX6_man 62 = .ok (.iastore, 1) := by decide +kernel
theorem dX6_man_63 : decode cX6_man 63 = .ok (.aload_n 0, 1) := by decide +kernel
theorem dX6_man_64 : decode cX6_man 64 = .ok (.getfield 23, 3) := by decide +kernel
theorem dX6_man_67 : decode cX6_man 67 = .ok (.iconst 3, 1) := by decide +kernel
theorem dX6_man_68 : decode cX6_man 68 = .ok (.aload_n 0, 1) := by decide +kernel
theorem dX6_man_69 : decode cX6_man 69 = .ok (.getfield 67, 3) := by decide +kernel
theorem dX6_man_72 : decode cX6_man 72 = .ok (.imul, 1) := by decide +kernel
theorem dX6_man_73 : decode cX6_man 73 = .ok (.iconst 1, 1) := by decide +kernel
theorem dX6_man_74 : decode cX6_man 74 = .ok (.iadd, 1) := by decide +kernel
theorem dX6_man_75 : decode cX6_man 75 = .ok (.iload_n 3, 1) := by decide +kernel
theorem dX6_man_76 : decode cX6_man 76 = .ok (.iastore, 1) := by decide +kernel
theorem dX6_man_77 : decode cX6_man 77 = .ok (.aload_n 0, 1) := by decide +kernel
theorem dX6_man_78 : decode cX6_man 78 = .ok (.getfield 23, 3) := by decide +kernel
theorem dX6_man_81 : decode cX6_man 81 = .ok (.iconst 3, 1) := by decide +kernel
theorem dX6_man_82 : decode cX6_man 82 = .ok (.aload_n 0, 1) := by decide +kernel
theorem dX6_man_83 : decode cX6_man 83 = .ok (.getfield 67, 3) := by decide +kernel
theorem dX6_man_86 : decode cX6_man 86 = .ok (.imul, 1) := by decide +kernel
theorem dX6_man_87 : decode cX6_man 87 = .ok (.iconst 2, 1) := by decide +kernel
theorem dX6_man_88 : decode cX6_man 88 = .ok (.iadd, 1) := by decide +kernel
theorem dX6_man_89 : decode cX6_man 89 = .ok (.iload_n 1, 1) := by decide +kernel
theorem dX6_man_90 : decode cX6_man 90 = .ok (.iastore, 1) := by decide +kernel
theorem dX6_man_91 : decode cX6_man 91 = .ok (.aload_n 0, 1) := by decide +kernel
theorem dX6_man_92 : decode cX6_man 92 = .ok (.getfield 26, 3) := by decide +kernel
theorem dX6_man_95 : decode cX6_man 95 = .ok (.aload_n 0, 1) := by decide +kernel
theorem dX6_man_96 : decode cX6_man 96 = .ok (.getfield 78, 3) := by decide +kernel
theorem dX6_man_99 : decode cX6_man 99 = .ok (.aload_n 0, 1) := by decide +kernel
theorem dX6_man_100 : decode cX6_man 100 = .ok (.getfield 67, 3) := by decide +kernel
theorem dX6_man_103 : decode cX6_man 103 = .ok (.iastore, 1) := by decide +kernel
theorem dX6_man_104 : decode cX6_man 104 = .ok (.aload_n 0, 1) := by decide +kernel
theorem dX6_man_105 : decode cX6_man 105 = .ok (.dup, 1) := by decide +kernel
theorem dX6_man_106 : decode cX6_man 106 = .ok (.getfield 78, 3) := by decide +kernel
theorem dX6_man_109 : decode cX6_man 109 = .ok (.iconst 1, 1) := by decide +kernel
theorem dX6_man_110 : decode cX6_man 110 = .ok (.iadd, 1) := by decide +kernel
theorem dX6_man_111 : decode cX6_man 111 = .ok (.putfield 78, 3) := by decide +kernel
theorem dX6_man_114 : decode cX6_man 114 = .ok (.aload_n 0, 1) := by decide +kernel
theorem dX6_man_115 : decode cX6_man 115 = .ok (.dup, 1) := by decide +kernel
theorem dX6_man_116 : decode cX6_man 116 = .ok (.getfield 67, 3) := by decide +kernel
theorem dX6_man_119 : decode cX6_man 119 = .ok (.iconst 1, 1) := by decide +kernel
theorem dX6_man_120 : decode cX6_man 120 = .ok (.iadd, 1) := by decide +kernel
theorem dX6_man_121 : decode cX6_man 121 = .ok (.putfield 67, 3) := by decide +kernel
theorem dX6_man_124 : decode cX6_man 124 = .ok (.aload_n 0, 1) := by decide +kernel
theorem dX6_man_125 : decode cX6_man 125 = .ok (.getfield 67, 3) := by decide +kernel
theorem dX6_man_128 : decode cX6_man 128 = .ok (.iconst 1, 1) := by decide +kernel
theorem dX6_man_129 : decode cX6_man 129 = .ok (.isub, 1) := by decide +kernel
theorem dX6_man_130 : decode cX6_man 130 = .ok (.ireturn, 1) := by decide +kernel
theorem dX6_told_0 : decode cX6_told 0 = .ok (.iload_n 2, 1) := by decide +kernel
theorem dX6_told_1 : decode cX6_told 1 = .ok (.i2l, 1) := by decide +kernel
theorem dX6_told_2 : decode cX6_told 2 = .ok (.lconst 0, 1) := by decide +kernel
theorem dX6_told_3 : decode cX6_told 3 = .ok (.ldc2_w 117, 3) := by decide +kernel
theorem dX6_told_6 : decode cX6_told 6 = .ok (.invokestatic 70, 3) := by decide +kernel
theorem dX6_told_9 : decode cX6_told 9 = .ok (.ifCond .eq 12, 3) := by decide +kernel
theorem dX6_told_12 : decode cX6_told 12 = .ok (.aload_n 0, 1) := by decide +kernel
theorem dX6_told_13 : decode cX6_told 13 = .ok (.iload_n 2, 1) := by decide +kernel
theorem dX6_told_14 : decode cX6_told 14 = .ok (.iload_n 1, 1) := by decide +kernel
theorem dX6_told_15 : decode cX6_told 15 = .ok (.invokevirtual 86, 3) := by decide +kernel
theorem dX6_told_18 : decode cX6_told 18 = .ok (.ifCond .ne 7, 3) := by decide +kernel
theorem dX6_told_21 : decode cX6_told 21 = .ok (.sipush (-1000), 3) := by decide +kernel
theorem dX6_told_24 : decode cX6_told 24 = .ok (.ireturn, 1) := by decide +kernel
theorem dX6_told_25 : decode cX6_told 25 = .ok (.iload_n 2, 1) := by decide +kernel
theorem dX6_told_26 : decode cX6_told 26 = .ok (.iconst 5, 1) := by decide +kernel
theorem dX6_told_27 : decode cX6_told 27 = .ok (.if_icmp .ge 39, 3) := by decide +kernel
theorem dX6_told_30 : decode cX6_told 30 = .ok (.iload_n 2, 1) := by decide +kernel
theorem dX6_told_31 : decode cX6_told 31 = .ok (.ifCond .ne 10, 3) := by decide +kernel
theorem dX6_told_34 : decode cX6_told 34 = .ok (.aload_n 0, 1) := by decide +kernel
theorem dX6_told_35 : decode cX6_told 35 = .ok (.getfield 102, 3) := by decide +kernel
theorem dX6_told_38 : decode cX6_told 38 = .ok (.goto 27, 3) := by decide +kernel
theorem dX6_told_41 : decode cX6_told 41 = .ok (.iload_n 2, 1) := by decide +kernel
theorem dX6_told_42 : decode cX6_told 42 = .ok (.iconst 1, 1) := by decide +kernel
theorem dX6_told_43 : decode cX6_told 43 = .ok (.if_icmp .ne 10, 3) := by decide +kernel
theorem dX6_told_46 : decode cX6_told 46 = .ok (.aload_n 0, 1) := by decide +kernel
theorem dX6_told_47 : decode cX6_told 47 = .ok (.getfield 105, 3) := by decide +kernel
theorem dX6_told_50 : decode cX6_told 50 = .ok (.goto 15, 3) := by decide +kernel
theorem dX6_told_53 : decode cX6_told 53 = .ok (.aload_n 0, 1) := by decide +kernel
theorem dX6_told_54 : decode cX6_told 54 = .ok (.getfield 23, 3) := by decide +kernel
theorem dX6_told_57 : decode cX6_told 57 = .ok (.iconst 3, 1) := by decide +kernel
theorem dX6_told_58 : decode cX6_told 58 = .ok (.iload_n 1, 1) := by decide +kernel
theorem dX6_told_59 : decode cX6_told 59 = .ok (.imul, 1) := by decide +kernel
theorem dX6_told_60 : decode cX6_told 60 = .ok (.iload_n 2, 1) := by decide +kernel
theorem dX6_told_61 : decode cX6_told 61 = .ok (.iadd, 1) := by decide +kernel
theorem dX6_told_62 : decode cX6_told 62 = .ok (.iconst 2, 1) := by decide +kernel
theorem dX6_told_63 : decode cX6_told 63 = .ok (.isub, 1) := by decide +kernel
theorem dX6_told_64 : decode cX6_told 64 = .ok (.iaload, 1) := by decide +kernel
theorem dX6_told_65 : decode cX6_told 65 = .ok (.ireturn, 1) := by decide +kernel
theorem dX6_told_66 : decode cX6_told 66 = .ok (.iload_n 2, 1) := by decide +kernel
theorem dX6_told_67 : decode cX6_told 67 = .ok (.iconst 5, 1) := by decide +kernel
theorem dX6_told_68 : decode cX6_told 68 = .ok (.if_icmp .ne 11, 3) := by decide +kernel
theorem dX6_told_71 : decode cX6_told 71 = .ok (.aload_n 0, 1) := by decide +kernel
theorem dX6_told_72 : decode cX6_told 72 = .ok (.iload_n 1, 1) := by decide +kernel
theorem dX6_told_73 : decode cX6_told 73 = .ok (.invokevirtual 119, 3) := by decide +kernel
theorem dX6_told_76 : decode cX6_told 76 = .ok (.goto 37, 3) := by decide +kernel
theorem dX6_told_79 : decode cX6_told 79 = .ok (.iload_n 2, 1) := by decide +kernel
theorem dX6_told_80 : decode cX6_told 80 = .ok (.bipush 6, 2) := by decide +kernel
theorem dX6_told_82 : decode cX6_told 82 = .ok (.if_icmp .ne 11, 3) := by decide +kernel
theorem dX6_told_85 : decode cX6_told 85 = .ok (.aload_n 0, 1) := by decide +kernel
theorem dX6_told_86 : decode cX6_told 86 = .ok (.iload_n 1, 1) := by decide +kernel
theorem dX6_told_87 : decode cX6_told 87 = .ok (.invokevirtual 122, 3) := by decide +kernel
theorem dX6_told_90 : decode cX6_told 90 = .ok (.goto 23, 3) := by decide +kernel
theorem dX6_told_93 : decode cX6_told 93 = .ok (.iload_n 2, 1) := by decide +kernel
theorem dX6_told_94 : decode cX6_told 94 = .ok (.bipush 7, 2) := by decide +kernel
theorem dX6_told_96 : decode cX6_told 96 = .ok (.if_icmp .ne 12, 3) := by decide +kernel
theorem dX6_told_99 : decode cX6_told 99 = .ok (.aload_n 0, 1) := by decide +kernel
theorem dX6_told_100 : decode cX6_told 100 = .ok (.getfield 26, 3) := by decide +kernel
theorem dX6_told_103 : decode cX6_told 103 = .ok (.iload_n 1, 1) := by decide +kernel
theorem dX6_told_104 : decode cX6_told 104 = .ok (.iaload, 1) := by decide +kernel
theorem dX6_told_105 : decode cX6_told 105 = .ok (.goto 8, 3) := by decide +kernel
theorem dX6_told_108 : decode cX6_told 108 = .ok (.aload_n 0, 1) := by decide +kernel
theorem dX6_told_109 : decode cX6_told 109 = .ok (.iload_n 1, 1) := by decide +kernel
theorem dX6_told_110 : decode cX6_told 110 = .ok (.invokevirtual 125, 3) := by decide +kernel
theorem dX6_told_113 : decode cX6_told 113 = .ok (.ireturn, 1) := by decide +kernel
theorem dX6_placeOf_0 : decode cX6_placeOf 0 = .ok (.iconst (-1), 1) := by decide +kernel
theorem dX6_placeOf_1 : decode cX6_placeOf 1 = .ok (.istore_n 2, 1) := by decide +kernel
theorem dX6_placeOf_2 : decode cX6_placeOf 2 = .ok (.iconst 0, 1) := by decide +kernel
theorem dX6_placeOf_3 : decode cX6_placeOf 3 = .ok (.istore_n 3, 1) := by decide +kernel
theorem dX6_placeOf_4 : decode cX6_placeOf 4 = .ok (.iload_n 3, 1) := by decide +kernel
theorem dX6_placeOf_5 : decode cX6_placeOf 5 = .ok (.aload_n 0, 1) := by decide +kernel
theorem dX6_placeOf_6 : decode cX6_placeOf 6 = .ok (.getfield 78, 3) := by decide +kernel
theorem dX6_placeOf_9 : decode cX6_placeOf 9 = .ok (.if_icmp .ge 25, 3) := by decide +kernel
theorem dX6_placeOf_12 : decode cX6_placeOf 12 = .ok (.aload_n 0, 1) := by decide +kernel
theorem dX6_placeOf_13 : decode cX6_placeOf 13 = .ok (.getfield 26, 3) := by decide +kernel
theorem dX6_placeOf_16 : decode cX6_placeOf 16 = .ok (.iload_n 3, 1) := by decide +kernel
theorem dX6_placeOf_17 : decode cX6_placeOf 17 = .ok (.iaload, 1) := by decide +kernel
theorem dX6_placeOf_18 : decode cX6_placeOf 18 = .ok (.iload_n 1, 1) := by decide +kernel
theorem dX6_placeOf_19 : decode cX6_placeOf 19 = .ok (.if_icmp .ne 7, 3) := by decide +kernel
theorem dX6_placeOf_22 : decode cX6_placeOf 22 = .ok (.iload_n 3, 1) := by decide +kernel
theorem dX6_placeOf_23 : decode cX6_placeOf 23 = .ok (.goto 4, 3) := by decide +kernel
theorem dX6_placeOf_26 : decode cX6_placeOf 26 = .ok (.iload_n 2, 1) := by decide +kernel
theorem dX6_placeOf_27 : decode cX6_placeOf 27 = .ok (.istore_n 2, 1) := by decide +kernel
theorem dX6_placeOf_28 : decode cX6_placeOf 28 = .ok (.iinc 3 1, 3) := by decide +kernel
theorem dX6_placeOf_31 : decode cX6_placeOf 31 = .ok (.goto (-27), 3) := by decide +kernel
theorem dX6_placeOf_34 : decode cX6_placeOf 34 = .ok (.iload_n 2, 1) := by decide +kernel
theorem dX6_placeOf_35 : decode cX6_placeOf 35 = .ok (.ireturn, 1) := by decide +kernel
theorem dX6_feed_0 : decode cX6_feed 0 = .ok (.iload_n 1, 1) := by decide +kernel
theorem dX6_feed_1 : decode cX6_feed 1 = .ok (.i2l, 1) := by decide +kernel
theorem dX6_feed_2 : decode cX6_feed 2 = .ok (.lconst 0, 1) := by decide +kernel
theorem dX6_feed_3 : decode cX6_feed 3 = .ok (.ldc2_w 128, 3) := by decide +kernel
theorem dX6_feed_6 : decode cX6_feed 6 = .ok (.invokestatic 70, 3) := by decide +kernel
theorem dX6_feed_9 : decode cX6_feed 9 = .ok (.ifCond .ne 6, 3) := by decide +kernel
theorem dX6_feed_12 : decode cX6_feed 12 = .ok (.bipush (-2), 2) := by decide +kernel
theorem dX6_feed_14 : decode cX6_feed 14 = .ok (.ireturn, 1) := by decide +kernel
theorem dX6_feed_15 : decode cX6_feed 15 = .ok (.aload_n 0, 1) := by decide +kernel
theorem dX6_feed_16 : decode cX6_feed 16 = .ok (.getfield 130, 3) := by decide +kernel
theorem dX6_feed_19 : decode cX6_feed 19 = .ok (.sipush 160, 3) := by decide +kernel
theorem dX6_feed_22 : decode cX6_feed 22 = .ok (.if_icmp .ne 6, 3) := by decide +kernel
theorem dX6_feed_25 : decode cX6_feed 25 = .ok (.bipush (-4), 2) := by decide +kernel
theorem dX6_feed_27 : decode cX6_feed 27 = .ok (.ireturn, 1) := by decide +kernel
theorem dX6_feed_28 : decode cX6_feed 28 = .ok (.aload_n 0, 1) := by decide +kernel
theorem dX6_feed_29 : decode cX6_feed 29 = .ok (.getfield 20, 3) := by decide +kernel
theorem dX6_feed_32 : decode cX6_feed 32 = .ok (.aload_n 0, 1) := by decide +kernel
theorem dX6_feed_33 : decode cX6_feed 33 = .ok (.getfield 130, 3) := by decide +kernel
theorem dX6_feed_36 : decode cX6_feed 36 = .ok (.iload_n 1, 1) := by decide +kernel
theorem dX6_feed_37 : decode cX6_feed 37 = .ok (.iastore, 1) := by decide +kernel
theorem dX6_feed_38 : decode cX6_feed 38 = .ok (.aload_n 0, 1) := by decide +kernel
theorem dX6_feed_39 : decode cX6_feed 39 = .ok (.dup, 1) := by decide +kernel
theorem dX6_feed_40 : decode cX6_feed 40 = .ok (.getfield 130, 3) := by decide +kernel
theorem dX6_feed_43 : decode cX6_feed 43 = .ok (.iconst 1, 1) := by decide +kernel
theorem dX6_feed_44 : decode cX6_feed 44 = .ok (.iadd, 1) := by decide +kernel
theorem dX6_feed_45 : decode cX6_feed 45 = .ok (.putfield 130, 3) := by decide +kernel
theorem dX6_feed_48 : decode cX6_feed 48 = .ok (.aload_n 0, 1) := by decide +kernel
theorem dX6_feed_49 : decode cX6_feed 49 = .ok (.getfield 130, 3) := by decide +kernel
theorem dX6_feed_52 : decode cX6_feed 52 = .ok (.ireturn, 1) := by decide +kernel
theorem dX6_byteAt_0 : decode cX6_byteAt 0 = .ok (.iload_n 1, 1) := by decide +kernel
theorem dX6_byteAt_1 : decode cX6_byteAt 1 = .ok (.aload_n 0, 1) := by decide +kernel
theorem dX6_byteAt_2 : decode cX6_byteAt 2 = .ok (.getfield 133, 3) := by decide +kernel
theorem dX6_byteAt_5 : decode cX6_byteAt 5 = .ok (.if_icmp .ge 17, 3) := by decide +kernel
theorem dX6_byteAt_8 : decode cX6_byteAt 8 = .ok (.aload_n 0, 1) := by decide +kernel
theorem dX6_byteAt_9 : decode cX6_byteAt 9 = .ok (.getfield 13, 3) := by decide +kernel
theorem dX6_byteAt_12 : decode cX6_byteAt 12 = .ok (.aload_n 0, 1) := by decide +kernel
theorem dX6_byteAt_13 : decode cX6_byteAt 13 = .ok (.getfield 136, 3) := by decide +kernel
theorem dX6_byteAt_16 : decode cX6_byteAt 16 = .ok (.iload_n 1, 1) := by decide +kernel
theorem dX6_byteAt_17 : decode cX6_byteAt 17 = .ok (.iadd, 1) := by decide +kernel
theorem dX6_byteAt_18 : decode cX6_byteAt 18 = .ok (.iaload, 1) := by decide +kernel
theorem dX6_byteAt_19 : decode cX6_byteAt 19 = .ok (.goto 4, 3) := by decide +kernel
theorem dX6_byteAt_22 : decode cX6_byteAt 22 = .ok (.iconst (-1), 1) := by decide +kernel
theorem dX6_byteAt_23 : decode cX6_byteAt 23 = .ok (.ireturn, 1) := by decide +kernel
theorem dX6_next_0 : decode cX6_next 0 = .ok (.aload_n 0, 1) := by decide +kernel
theorem dX6_next_1 : decode cX6_next 1 = .ok (.aload_n 0, 1) := by decide +kernel
theorem dX6_next_2 : decode cX6_next 2 = .ok (.getfield 139, 3) := by decide +kernel
theorem dX6_next_5 : decode cX6_next 5 = .ok (.invokevirtual 142, 3) := by decide +kernel
theorem dX6_next_8 : decode cX6_next 8 = .ok (.bipush 32, 2) := by decide +kernel
theorem dX6_next_10 : decode cX6_next 10 = .ok (.if_icmp .eq 16, 3) := by decide +kernel
theorem dX6_next_13 : decode cX6_next 13 = .ok (.aload_n 0, 1) := by decide +kernel
theorem dX6_next_14 : decode cX6_next 14 = .ok (.aload_n 0, 1) := by decide +kernel
theorem dX6_next_15 : decode cX6_next 15 = .ok (.getfield 139, 3) := by decide +kernel
theorem dX6_next_18 : decode cX6_next 18 = .ok (.invokevirtual 142, 3) := by decide +kernel
theorem dX6_next_21 : decode cX6_next 21 = .ok (.bipush 10, 2) := by decide +kernel
theorem dX6_next_23 : decode cX6_next 23 = .ok (.if_icmp .ne 16, 3) := by decide +kernel
theorem dX6_next_26 : decode cX6_next 26 = .ok (.aload_n 0, 1) := by decide +kernel
theorem dX6_next_27 : decode cX6_next 27 = .ok (.dup, 1) := by decide +kernel
theorem dX6_next_28 : decode cX6_next 28 = .ok (.getfield 139, 3) := by decide +kernel
theorem dX6_next_31 : decode cX6_next 31 = .ok (.iconst 1, 1) := by decide +kernel
theorem dX6_next_32 : decode cX6_next 32 = .ok (.iadd, 1) := by decide +kernel
theorem dX6_next_33 : decode cX6_next 33 = .ok (.putfield 139, 3) := by decide +kernel
theorem dX6_next_36 : decode cX6_next 36 = .ok (.goto (-36), 3) := by decide +kernel
theorem dX6_next_39 : decode cX6_next 39 = .ok (.aload_n 0, 1) := by decide +kernel
theorem dX6_next_40 : decode cX6_next 40 = .ok (.aload_n 0, 1) := by decide +kernel
theorem dX6_next_41 : decode cX6_next 41 = .ok (.getfield 139, 3) := by decide +kernel
theorem dX6_next_44 : decode cX6_next 44 = .ok (.putfield 145, 3) := by decide +kernel
theorem dX6_next_47 : decode cX6_next 47 = .ok (.aload_n 0, 1) := by decide +kernel
theorem dX6_next_48 : decode cX6_next 48 = .ok (.aload_n 0, 1) := by decide +kernel
theorem dX6_next_49 : decode cX6_next 49 = .ok (.getfield 139, 3) := by decide +kernel
theorem dX6_next_52 : decode cX6_next 52 = .ok (.invokevirtual 142, 3) := by decide +kernel
theorem dX6_next_55 : decode cX6_next 55 = .ok (.istore_n 1, 1) := by decide +kernel
theorem dX6_next_56 : decode cX6_next 56 = .ok (.aload_n 0, 1) := by decide +kernel
theorem dX6_next_57 : decode cX6_next 57 = .ok (.iconst 4, 1) := by decide +kernel
theorem dX6_next_58 : decode cX6_next 58 = .ok (.putfield 148, 3) := by decide +kernel
theorem dX6_next_61 : decode cX6_next 61 = .ok (.iload_n 1, 1) := by decide +kernel
theorem dX6_next_62 : decode cX6_next 62 = .ok (.ifCond .ge 19, 3) := by decide +kernel
theorem dX6_next_65 : decode cX6_next 65 = .ok (.aload_n 0, 1) := by decide +kernel
theorem dX6_next_66 : decode cX6_next 66 = .ok (.iconst 0, 1) := by decide +kernel
theorem dX6_next_67 : decode cX6_next 67 = .ok (.putfield 148, 3) := by decide +kernel
theorem dX6_next_70 : decode cX6_next 70 = .ok (.aload_n 0, 1) := by decide +kernel
theorem dX6_next_71 : decode cX6_next 71 = .ok (.aload_n 0, 1) := by decide +kernel
theorem dX6_next_72 : decode cX6_next 72 = .ok (.getfield 133, 3) := by decide +kernel
theorem dX6_next_75 : decode cX6_next 75 = .ok (.putfield 145, 3) := by decide +kernel
theorem dX6_next_78 : decode cX6_next 78 = .ok (.goto 243, 3) := by decide +kernel
theorem dX6_next_81 : decode cX6_next 81 = .ok (.iload_n 1, 1) := by decide +kernel
theorem dX6_next_82 : decode cX6_next 82 = .ok (.i2l, 1) := by decide +kernel
theorem dX6_next_83 : decode cX6_next 83 = .ok (.ldc2_w 151, 3) := by decide +kernel
theorem dX6_next_86 : decode cX6_next 86 = .ok (.ldc2_w 153, 3) := by decide +kernel
theorem dX6_next_89 : decode cX6_next 89 = .ok (.invokestatic 70, 3) := by decide +kernel
theorem dX6_next_92 : decode cX6_next 92 = .ok (.ifCond .eq 42, 3) := by decide +kernel
theorem dX6_next_95 : decode cX6_next 95 = .ok (.aload_n 0, 1) := by decide +kernel
theorem dX6_next_96 : decode cX6_next 96 = .ok (.iconst 1, 1) := by decide +kernel
theorem dX6_next_97 : decode cX6_next 97 = .ok (.putfield 148, 3) := by decide +kernel
theorem dX6_next_100 : decode cX6_next 100 = .ok (.aload_n 0, 1) := by decide +kernel
theorem dX6_next_101 : decode cX6_next 101 = .ok (.aload_n 0, 1) := by decide +kernel
theorem dX6_next_102 : decode cX6_next 102 = .ok (.getfield 139, 3) := by decide +kernel
theorem dX6_next_105 : decode cX6_next 105 = .ok (.invokevirtual 142, 3) := by decide +kernel
theorem dX6_next_108 : decode cX6_next 108 = .ok (.i2l, 1) := by decide +kernel
theorem dX6_next_109 : decode cX6_next 109 = .ok (.ldc2_w 151, 3) := by decide +kernel
theorem dX6_next_112 : decode cX6_next 112 = .ok (.ldc2_w 153, 3) := by decide +kernel
theorem dX6_next_115 : decode cX6_next 115 = .ok (.invokestatic 70, 3) := by decide +kernel
theorem dX6_next_118 : decode cX6_next 118 = .ok (.ifCond .eq 203, 3) := by decide +kernel
theorem dX6_next_121 : decode cX6_next 121 = .ok (.aload_n 0, 1) := by decide +kernel
theorem dX6_next_122 : decode cX6_next 122 = .ok (.dup, 1) := by decide +kernel
theorem dX6_next_123 : decode cX6_next 123 = .ok (.getfield 139, 3) := by decide +kernel
theorem dX6_next_126 : decode cX6_next 126 = .ok (.iconst 1, 1) := by decide +kernel
theorem dX6_next_127 : decode cX6_next 127 = .ok (.iadd, 1) := by decide +kernel
theorem dX6_next_128 : decode cX6_next 128 = .ok (.putfield 139, 3) := by decide +kernel
theorem dX6_next_131 : decode cX6_next 131 = .ok (.goto (-31), 3) := by decide +kernel
theorem dX6_next_134 : decode cX6_next 134 = .ok (.iload_n 1, 1) := by decide +kernel
theorem dX6_next_135 : decode cX6_next 135 = .ok (.i2l, 1) := by decide +kernel
theorem dX6_next_136 : decode cX6_next 136 = .ok (.ldc2_w 155, 3) := by decide +kernel
theorem dX6_next_139 : decode cX6_next 139 = .ok (.ldc2_w 157, 3) := by decide +kernel
theorem dX6_next_142 : decode cX6_next 142 = .ok (.invokestatic 70, 3) := by decide +kernel
theorem dX6_next_145 : decode cX6_next 145 = .ok (.ifCond .eq 107, 3) := by decide +kernel
theorem dX6_next_148 : decode cX6_next 148 = .ok (.aload_n 0, 1) := by decide +kernel
theorem dX6_next_149 : decode cX6_next 149 = .ok (.iconst 2, 1) := by decide +kernel
theorem dX6_next_150 : decode cX6_next 150 = .ok (.putfield 148, 3) := by decide +kernel
theorem dX6_next_153 : decode cX6_next 153 = .ok (.aload_n 0, 1) := by decide +kernel
theorem dX6_next_154 : decode cX6_next 154 = .ok (.lconst 0, 1) := by decide +kernel
theorem dX6_next_155 : decode cX6_next 155 = .ok (.putfield 159, 3) := by decide +kernel
theorem dX6_next_158 : decode cX6_next 158 = .ok (.iconst 0, 1) := by decide +kernel
theorem dX6_next_159 : decode cX6_next 159 = .ok (.istore_n 2, 1) := by decide +kernel
theorem dX6_next_160 : decode cX6_next 160 = .ok (.aload_n 0, 1) := by decide +kernel
theorem dX6_next_161 : decode cX6_next 161 = .ok (.aload_n 0, 1) := by decide +kernel
theorem dX6_next_162 : decode cX6_next 162 = .ok (.getfield 139, 3) := by decide +kernel
theorem dX6_next_165 : decode cX6_next 165 = .ok (.invokevirtual 142, 3) := by decide +kernel
theorem dX6_next_168 : decode cX6_next 168 = .ok (.i2l, 1) := by decide +kernel
theorem dX6_next_169 : decode cX6_next 169 = .ok (.ldc2_w 155, 3) := by decide +kernel
theorem dX6_next_172 : decode cX6_next 172 = .ok (.ldc2_w 157, 3) := by decide +kernel
theorem dX6_next_175 : decode cX6_next 175 = .ok (.invokestatic 70, 3) := by decide +kernel
theorem dX6_next_178 : decode cX6_next 178 = .ok (.ifCond .eq 57, 3) := by decide +kernel
theorem dX6_next_181 : decode cX6_next 181 = .ok (.aload_n 0, 1) := by decide +kernel
theorem dX6_next_182 : decode cX6_next 182 = .ok (.iload_n 2, 1) := by decide +kernel
theorem dX6_next_183 : decode cX6_next 183 = .ok (.iconst 4, 1) := by decide +kernel
theorem dX6_next_184 : decode cX6_next 184 = .ok (.if_icmp .ge 28, 3) := by decide +kernel
theorem dX6_next_187 : decode cX6_next 187 = .ok (.ldc2_w 163, 3) := by decide +kernel
theorem dX6_next_190 : decode cX6_next 190 = .ok (.aload_n 0, 1) := by decide +kernel
theorem dX6_next_191 : decode cX6_next 191 = .ok (.getfield 159, 3) := by decide +kernel
theorem dX6_next_194 : decode cX6_next 194 = .ok (.lmul, 1) := by decide +kernel
theorem dX6_next_195 : decode cX6_next 195 = .ok (.aload_n 0, 1) := by decide +kernel
theorem dX6_next_196 : decode cX6_next 196 = .ok (.aload_n 0, 1) := by decide +kernel
theorem dX6_next_197 : decode cX6_next 197 = .ok (.getfield 139, 3) := by decide +kernel
theorem dX6_next_200 : decode cX6_next 200 = .ok (.invokevirtual 142, 3) := by decide +kernel
theorem dX6_next_203 : decode cX6_next 203 = .ok (.i2l, 1) := by decide +kernel
theorem dX6_next_204 : decode cX6_next 204 = .ok (.ladd, 1) := by decide +kernel
theorem dX6_next_205 : decode cX6_next 205 = .ok (.ldc2_w 155, 3) := by decide +kernel
theorem dX6_next_208 : decode cX6_next 208 = .ok (.lsub, 1) := by decide +kernel
theorem dX6_next_209 : decode cX6_next 209 = .ok (.goto 7, 3) := by decide +kernel
theorem dX6_next_212 : decode cX6_next 212 = .ok (.aload_n 0, 1) := by decide +kernel
theorem dX6_next_213 : decode cX6_next 213 = .ok (.getfield 159, 3) := by decide +kernel
theorem dX6_next_216 : decode cX6_next 216 = .ok (.putfield 159, 3) := by decide +kernel
theorem dX6_next_219 : decode cX6_next 219 = .ok (.iinc 2 1, 3) := by decide +kernel
theorem dX6_next_222 : decode cX6_next 222 = .ok (.aload_n 0, 1) := by decide +kernel
theorem dX6_next_223 : decode cX6_next 223 = .ok (.dup, 1) := by decide +kernel
theorem dX6_next_224 : decode cX6_next 224 = .ok (.getfield 139, 3) := by decide +kernel
theorem dX6_next_227 : decode cX6_next 227 = .ok (.iconst 1, 1) := by decide +kernel
theorem dX6_next_228 : decode cX6_next 228 = .ok (.iadd, 1) := by decide +kernel
theorem dX6_next_229 : decode cX6_next 229 = .ok (.putfield 139, 3) := by decide +kernel
theorem dX6_next_232 : decode cX6_next 232 = .ok (.goto (-72), 3) := by decide +kernel
theorem dX6_next_235 : decode cX6_next 235 = .ok (.aload_n 0, 1) := by decide +kernel
theorem dX6_next_236 : decode cX6_next 236 = .ok (.iload_n 2, 1) := by decide +kernel
theorem dX6_next_237 : decode cX6_next 237 = .ok (.iconst 4, 1) := by decide +kernel
theorem dX6_next_238 : decode cX6_next 238 = .ok (.if_icmp .le 7, 3) := by decide +kernel
theorem dX6_next_241 : decode cX6_next 241 = .ok (.iconst 4, 1) := by decide +kernel
theorem dX6_next_242 : decode cX6_next 242 = .ok (.goto 4, 3) := by decide +kernel
theorem dX6_next_245 : decode cX6_next 245 = .ok (.iconst 2, 1) := by decide +kernel
theorem dX6_next_246 : decode cX6_next 246 = .ok (.putfield 148, 3) := by decide +kernel
theorem dX6_next_249 : decode cX6_next 249 = .ok (.goto 72, 3) := by decide +kernel
theorem dX6_next_252 : decode cX6_next 252 = .ok (.iload_n 1, 1) := by decide +kernel
theorem dX6_next_253 : decode cX6_next 253 = .ok (.bipush 40, 2) := by decide +kernel
theorem dX6_next_255 : decode cX6_next 255 = .ok (.if_icmp .eq 45, 3) := by decide +kernel
theorem dX6_next_258 : decode cX6_next 258 = .ok (.iload_n 1, 1) := by decide +kernel
theorem dX6_next_259 : decode cX6_next 259 = .ok (.bipush 41, 2) := by decide +kernel
theorem dX6_next_261 : decode cX6_next 261 = .ok (.if_icmp .eq 39, 3) := by decide +kernel
theorem dX6_next_264 : decode cX6_next 264 = .ok (.iload_n 1, 1) := by decide +kernel
theorem dX6_next_265 : decode cX6_next 265 = .ok (.bipush 59, 2) := by decide +kernel
theorem dX6_next_267 : decode cX6_next 267 = .ok (.if_icmp .eq 33, 3) := by decide +kernel
theorem dX6_next_270 : decode cX6_next 270 = .ok (.iload_n 1, 1) := by decide +kernel
theorem dX6_next_271 : decode cX6_next 271 = .ok (.bipush 43, 2) := by decide +kernel
theorem dX6_next_273 : decode cX6_next 273 = .ok (.if_icmp .eq 27, 3) := by decide +kernel
theorem dX6_next_276 : decode cX6_next 276 = .ok (.iload_n 1, 1) := by decide +kernel
theorem dX6_next_277 : decode cX6_next 277 = .ok (.bipush 45, 2) := by decide +kernel
theorem dX6_next_279 : decode cX6_next 279 = .ok (.if_icmp .eq 21, 3) := by decide +kernel
theorem dX6_next_282 : decode cX6_next 282 = .ok (.iload_n 1, 1) := by decide +kernel
theorem dX6_next_283 : decode cX6_next 283 = .ok (.bipush 42, 2) := by decide +kernel
theorem dX6_next_285 : decode cX6_next 285 = .ok (.if_icmp .eq 15, 3) := by decide +kernel
theorem dX6_next_288 : decode cX6_next 288 = .ok (.iload_n 1, 1) := by decide +kernel
theorem dX6_next_289 : decode cX6_next 289 = .ok (.bipush 60, 2) := by decide +kernel
theorem dX6_next_291 : decode cX6_next 291 = .ok (.if_icmp .eq 9, 3) := by decide +kernel
theorem dX6_next_294 : decode cX6_next 294 = .ok (.iload_n 1, 1) := by decide +kernel
theorem dX6_next_295 : decode cX6_next 295 = .ok (.bipush 61, 2) := by decide +kernel
theorem dX6_next_297 : decode cX6_next 297 = .ok (.if_icmp .ne 24, 3) := by decide +kernel
theorem dX6_next_300 : decode cX6_next 300 = .ok (.aload_n 0, 1) := by decide +kernel
theorem dX6_next_301 : decode cX6_next 301 = .ok (.iconst 3, 1) := by decide +kernel
theorem dX6_next_302 : decode cX6_next 302 = .ok (.putfield 148, 3) := by decide +kernel
theorem dX6_next_305 : decode cX6_next 305 = .ok (.aload_n 0, 1) := by decide +kernel
theorem dX6_next_306 : decode cX6_next 306 = .ok (.iload_n 1, 1) := by decide +kernel
theorem dX6_next_307 : decode cX6_next 307 = .ok (.i2l, 1) := by decide +kernel
theorem dX6_next_308 : decode cX6_next 308 = .ok (.putfield 159, 3) := by decide +kernel
theorem dX6_next_311 : decode cX6_next 311 = .ok (.aload_n 0, 1) := by decide +kernel
theorem dX6_next_312 : decode cX6_next 312 = .ok (.dup, 1) := by decide +kernel
theorem dX6_next_313 : decode cX6_next 313 = .ok (.getfield 139, 3) := by decide +kernel
theorem dX6_next_316 : decode cX6_next 316 = .ok (.iconst 1, 1) := by decide +kernel
theorem dX6_next_317 : decode cX6_next 317 = .ok (.iadd, 1) := by decide +kernel
theorem dX6_next_318 : decode cX6_next 318 = .ok (.putfield 139, 3) := by decide +kernel
theorem dX6_next_321 : decode cX6_next 321 = .ok (.return_, 1) := by decide +kernel
theorem dX6_fail_0 : decode cX6_fail 0 = .ok (.aload_n 0, 1) := by decide +kernel
theorem dX6_fail_1 : decode cX6_fail 1 = .ok (.getfield 165, 3) := by decide +kernel
theorem dX6_fail_4 : decode cX6_fail 4 = .ok (.ifCond .ne 16, 3) := by decide +kernel
theorem dX6_fail_7 : decode cX6_fail 7 = .ok (.aload_n 0, 1) := by decide +kernel
theorem dX6_fail_8 : decode cX6_fail 8 = .ok (.iconst 1, 1) := by decide +kernel
theorem dX6_fail_9 : decode cX6_fail 9 = .ok (.putfield 165, 3) := by decide +kernel
theorem dX6_fail_12 : decode cX6_fail 12 = .ok (.aload_n 0, 1) := by decide +kernel
theorem dX6_fail_13 : decode cX6_fail 13 = .ok (.aload_n 0, 1) := by decide +kernel
theorem dX6_fail_14 : decode cX6_fail 14 = .ok (.getfield 145, 3) := by decide +kernel
theorem dX6_fail_17 : decode cX6_fail 17 = .ok (.putfield 169, 3) := by decide +kernel
theorem dX6_fail_20 : decode cX6_fail 20 = .ok (.return_, 1) := by decide +kernel
theorem dX6_isLetter_0 : decode cX6_isLetter 0 = .ok (.aload_n 0, 1) := by decide +kernel
theorem dX6_isLetter_1 : decode cX6_isLetter 1 = .ok (.getfield 145, 3) := by decide +kernel
theorem dX6_isLetter_4 : decode cX6_isLetter 4 = .ok (.iload_n 1, 1) := by decide +kernel
theorem dX6_isLetter_5 : decode cX6_isLetter 5 = .ok (.iadd, 1) := by decide +kernel
theorem dX6_isLetter_6 : decode cX6_isLetter 6 = .ok (.aload_n 0, 1) := by decide +kernel
theorem dX6_isLetter_7 : decode cX6_isLetter 7 = .ok (.getfield 139, 3) := by decide +kernel
theorem dX6_isLetter_10 : decode cX6_isLetter 10 = .ok (.if_icmp .ge 25, 3) := by decide +kernel
theorem dX6_isLetter_13 : decode cX6_isLetter 13 = .ok (.aload_n 0, 1) := by decide +kernel
theorem dX6_isLetter_14 : decode cX6_isLetter 14 = .ok (.aload_n 0, 1) := by decide +kernel
theorem dX6_isLetter_15 : decode cX6_isLetter 15 = .ok (.getfield 145, 3) := by decide +kernel
theorem dX6_isLetter_18 : decode cX6_isLetter 18 = .ok (.iload_n 1, 1) := by decide +kernel
theorem dX6_isLetter_19 : decode cX6_isLetter 19 = .ok (.iadd, 1) := by decide +kernel
theorem dX6_isLetter_20 : decode cX6_isLetter 20 = .ok (.invokevirtual 142, 3) := by decide +kernel
theorem dX6_isLetter_23 : decode cX6_isLetter 23 = .ok (.iload_n 2, 1) := by decide +kernel
theorem dX6_isLetter_24 : decode cX6_isLetter 24 = .ok (.if_icmp .ne 7, 3) := by decide +kernel
theorem dX6_isLetter_27 : decode cX6_isLetter 27 = .ok (.iconst 1, 1) := by decide +kernel
theorem dX6_isLetter_28 : decode cX6_isLetter 28 = .ok (.goto 16, 3) := by decide +kernel
theorem dX6_isLetter_31 : decode cX6_isLetter 31 = .ok (.iconst 0, 1) := by decide +kernel
theorem dX6_isLetter_32 : decode cX6_isLetter 32 = .ok (.goto 12, 3) := by decide +kernel
theorem dX6_isLetter_35 : decode cX6_isLetter 35 = .ok (.iload_n 2, 1) := by decide +kernel
theorem dX6_isLetter_36 : decode cX6_isLetter 36 = .ok (.ifCond .ne 7, 3) := by decide +kernel
theorem dX6_isLetter_39 : decode cX6_isLetter 39 = .ok (.iconst 1, 1) := by decide +kernel
theorem dX6_isLetter_40 : decode cX6_isLetter 40 = .ok (.goto 4, 3) := by decide +kernel
theorem dX6_isLetter_43 : decode cX6_isLetter 43 = .ok (.iconst 0, 1) := by decide +kernel
theorem dX6_isLetter_44 : decode cX6_isLetter 44 = .ok (.ireturn, 1) := by decide +kernel
theorem dX6_isWord_0 : decode cX6_isWord 0 = .ok (.aload_n 0, 1) := by decide +kernel
theorem dX6_isWord_1 : decode cX6_isWord 1 = .ok (.getfield 165, 3) := by decide +kernel
theorem dX6_isWord_4 : decode cX6_isWord 4 = .ok (.ifCond .ne 108, 3) := by decide +kernel
theorem dX6_isWord_7 : decode cX6_isWord 7 = .ok (.aload_n 0, 1) := by decide +kernel
theorem dX6_isWord_8 : decode cX6_isWord 8 = .ok (.getfield 148, 3) := by decide +kernel
theorem dX6_isWord_11 : decode cX6_isWord 11 = .ok (.iconst 1, 1) := by decide +kernel
theorem dX6_isWord_12 : decode cX6_isWord 12 = .ok (.if_icmp .ne 100, 3) := by decide +kernel
theorem dX6_isWord_15 : decode cX6_isWord 15 = .ok (.aload_n 0, 1) := by decide +kernel
theorem dX6_isWord_16 : decode cX6_isWord 16 = .ok (.getfield 139, 3) := by decide +kernel
theorem dX6_isWord_19 : decode cX6_isWord 19 = .ok (.aload_n 0, 1) := by decide +kernel
theorem dX6_isWord_20 : decode cX6_isWord 20 = .ok (.getfield 145, 3) := by decide +kernel
theorem dX6_isWord_23 : decode cX6_isWord 23 = .ok (.bipush 8, 2) := by decide +kernel
theorem dX6_isWord_25 : decode cX6_isWord 25 = .ok (.iadd, 1) := by decide +kernel
theorem dX6_isWord_26 : decode cX6_isWord 26 = .ok (.if_icmp .gt 86, 3) := by decide +kernel
theorem dX6_isWord_29 : decode cX6_isWord 29 = .ok (.aload_n 0, 1) := by decide +kernel
theorem dX6_isWord_30 : decode cX6_isWord 30 = .ok (.iconst 0, 1) := by decide +kernel
theorem dX6_isWord_31 : decode cX6_isWord 31 = .ok (.iload_n 1, 1) := by decide +kernel
theorem dX6_isWord_32 : decode cX6_isWord 32 = .ok (.invokevirtual 172, 3) := by decide +kernel
theorem dX6_isWord_35 : decode cX6_isWord 35 = .ok (.ifCond .eq 77, 3) := by decide +kernel
theorem dX6_isWord_38 : decode cX6_isWord 38 = .ok (.aload_n 0, 1) := by decide +kernel
theorem dX6_isWord_39 : decode cX6_isWord 39 = .ok (.iconst 1, 1) := by decide +kernel
theorem dX6_isWord_40 : decode cX6_isWord 40 = .ok (.iload_n 2, 1) := by decide +kernel
theorem dX6_isWord_41 : decode cX6_isWord 41 = .ok (.invokevirtual 172, 3) := by decide +kernel
theorem dX6_isWord_44 : decode cX6_isWord 44 = .ok (.ifCond .eq 68, 3) := by decide +kernel
theorem dX6_isWord_47 : decode cX6_isWord 47 = .ok (.aload_n 0, 1) := by decide +kernel
theorem dX6_isWord_48 : decode cX6_isWord 48 = .ok (.iconst 2, 1) := by decide +kernel
theorem dX6_isWord_49 : decode cX6_isWord 49 = .ok (.iload_n 3, 1) := by decide +kernel
theorem dX6_isWord_50 : decode cX6_isWord 50 = .ok (.invokevirtual 172, 3) := by decide +kernel
theorem dX6_isWord_53 : decode cX6_isWord 53 = .ok (.ifCond .eq 59, 3) := by decide +kernel
theorem dX6_isWord_56 : decode cX6_isWord 56 = .ok (.aload_n 0, 1) := by decide +kernel
theorem dX6_isWord_57 : decode cX6_isWord 57 = .ok (.iconst 3, 1) := by decide +kernel
theorem dX6_isWord_58 : decode cX6_isWord 58 = .ok (.iload 4, 2) := by decide +kernel
theorem dX6_isWord_60 : decode cX6_isWord 60 = .ok (.invokevirtual 172, 3) := by decide +kernel
theorem dX6_isWord_63 : decode cX6_isWord 63 = .ok (.ifCond .eq 49, 3) := by decide +kernel
theorem dX6_isWord_66 : decode cX6_isWord 66 = .ok (.aload_n 0, 1) := by decide +kernel
theorem dX6_isWord_67 : decode cX6_isWord 67 = .ok (.iconst 4, 1) := by decide +kernel
theorem dX6_isWord_68 : decode cX6_isWord 68 = .ok (.iload 5, 2) := by decide +kernel
theorem dX6_isWord_70 : decode cX6_isWord 70 = .ok (.invokevirtual 172, 3) := by decide +kernel
theorem dX6_isWord_73 : decode cX6_isWord 73 = .ok (.ifCond .eq 39, 3) := by decide +kernel
theorem dX6_isWord_76 : decode cX6_isWord 76 = .ok (.aload_n 0, 1) := by decide +kernel
theorem dX6_isWord_77 : decode cX6_isWord 77 = .ok (.iconst 5, 1) := by decide +kernel
theorem dX6_isWord_78 : decode cX6_isWord 78 = .ok (.iload 6, 2) := by decide +kernel
theorem dX6_isWord_80 : decode cX6_isWord 80 = .ok (.invokevirtual 172, 3) := by decide +kernel
theorem dX6_isWord_83 : decode cX6_isWord 83 = .ok (.ifCond .eq 29, 3) := by decide +kernel
theorem dX6_isWord_86 : decode cX6_isWord 86 = .ok (.aload_n 0, 1) := by decide +kernel
theorem dX6_isWord_87 : decode cX6_isWord 87 = .ok (.bipush 6, 2) := by decide +kernel
theorem dX6_isWord_89 : decode cX6_isWord 89 = .ok (.iload 7, 2) := by decide +kernel
theorem dX6_isWord_91 : decode cX6_isWord 91 = .ok (.invokevirtual 172, 3) := by decide +kernel
theorem dX6_isWord_94 : decode cX6_isWord 94 = .ok (.ifCond .eq 18, 3) := by decide +kernel
theorem dX6_isWord_97 : decode cX6_isWord 97 = .ok (.aload_n 0, 1) := by decide +kernel
theorem dX6_isWord_98 : decode cX6_isWord 98 = .ok (.bipush 7, 2) := by decide +kernel
theorem dX6_isWord_100 : decode cX6_isWord 100 = .ok (.iload 8, 2) := by decide +kernel
theorem dX6_isWord_102 : decode cX6_isWord 102 = .ok (.invokevirtual 172, 3) := by decide +kernel
theorem dX6_isWord_105 : decode cX6_isWord 105 = .ok (.ifCond .eq 7, 3) := by decide +kernel
theorem dX6_isWord_108 : decode cX6_isWord 108 = .ok (.iconst 1, 1) := by decide +kernel
theorem dX6_isWord_109 : decode cX6_isWord 109 = .ok (.goto 4, 3) := by decide +kernel
theorem dX6_isWord_112 : decode cX6_isWord 112 = .ok (.iconst 0, 1) := by decide +kernel
theorem dX6_isWord_113 : decode cX6_isWord 113 = .ok (.ireturn, 1) := by decide +kernel
theorem dX6_isSign_0 : decode cX6_isSign 0 = .ok (.aload_n 0, 1) := by decide +kernel
theorem dX6_isSign_1 : decode cX6_isSign 1 = .ok (.getfield 165, 3) := by decide +kernel
theorem dX6_isSign_4 : decode cX6_isSign 4 = .ok (.ifCond .ne 25, 3) := by decide +kernel
theorem dX6_isSign_7 : decode cX6_isSign 7 = .ok (.aload_n 0, 1) := by decide +kernel
theorem dX6_isSign_8 : decode cX6_isSign 8 = .ok (.getfield 148, 3) := by decide +kernel
theorem dX6_isSign_11 : decode cX6_isSign 11 = .ok (.iconst 3, 1) := by decide +kernel
theorem dX6_isSign_12 : decode cX6_isSign 12 = .ok (.if_icmp .ne 17, 3) := by decide +kernel
theorem dX6_isSign_15 : decode cX6_isSign 15 = .ok (.aload_n 0, 1) := by decide +kernel
theorem dX6_isSign_16 : decode cX6_isSign 16 = .ok (.getfield 159, 3) := by decide +kernel
theorem dX6_isSign_19 : decode cX6_isSign 19 = .ok (.iload_n 1, 1) := by decide +kernel
theorem dX6_isSign_20 : decode cX6_isSign 20 = .ok (.i2l, 1) := by decide +kernel
theorem dX6_isSign_21 : decode cX6_isSign 21 = .ok (.lcmp, 1) := by decide +kernel
theorem dX6_isSign_22 : decode cX6_isSign 22 = .ok (.ifCond .ne 7, 3) := by decide +kernel
theorem dX6_isSign_25 : decode cX6_isSign 25 = .ok (.iconst 1, 1) := by decide +kernel
theorem dX6_isSign_26 : decode cX6_isSign 26 = .ok (.goto 4, 3) := by decide +kernel
theorem dX6_isSign_29 : decode cX6_isSign 29 = .ok (.iconst 0, 1) := by decide +kernel
theorem dX6_isSign_30 : decode cX6_isSign 30 = .ok (.ireturn, 1) := by decide +kernel
theorem dX6_textOpens_0 : decode cX6_textOpens 0 = .ok (.aload_n 0, 1) := by decide +kernel
theorem dX6_textOpens_1 : decode cX6_textOpens 1 = .ok (.getfield 175, 3) := by decide +kernel
theorem dX6_textOpens_4 : decode cX6_textOpens 4 = .ok (.iconst 5, 1) := by decide +kernel
theorem dX6_textOpens_5 : decode cX6_textOpens 5 = .ok (.if_icmp .ne 9, 3) := by decide +kernel
theorem dX6_textOpens_8 : decode cX6_textOpens 8 = .ok (.aload_n 0, 1) := by decide +kernel
theorem dX6_textOpens_9 : decode cX6_textOpens 9 = .ok (.invokevirtual 178, 3) := by decide +kernel
theorem dX6_textOpens_12 : decode cX6_textOpens 12 = .ok (.iconst 0, 1) := by decide +kernel
theorem dX6_textOpens_13 : decode cX6_textOpens 13 = .ok (.ireturn, 1) := by decide +kernel
theorem dX6_textOpens_14 : decode cX6_textOpens 14 = .ok (.aload_n 0, 1) := by decide +kernel
theorem dX6_textOpens_15 : decode cX6_textOpens 15 = .ok (.dup, 1) := by decide +kernel
theorem dX6_textOpens_16 : decode cX6_textOpens 16 = .ok (.getfield 175, 3) := by decide +kernel
theorem dX6_textOpens_19 : decode cX6_textOpens 19 = .ok (.iconst 1, 1) := by decide +kernel
theorem dX6_textOpens_20 : decode cX6_textOpens 20 = .ok (.iadd, 1) := by decide +kernel
theorem dX6_textOpens_21 : decode cX6_textOpens 21 = .ok (.putfield 175, 3) := by decide +kernel
theorem dX6_textOpens_24 : decode cX6_textOpens 24 = .ok (.aload_n 0, 1) := by decide +kernel
theorem dX6_textOpens_25 : decode cX6_textOpens 25 = .ok (.invokevirtual 181, 3) := by decide +kernel
theorem dX6_textOpens_28 : decode cX6_textOpens 28 = .ok (.iconst 1, 1) := by decide +kernel
theorem dX6_textOpens_29 : decode cX6_textOpens 29 = .ok (.ireturn, 1) := by decide +kernel
theorem dX6_name_0 : decode cX6_name 0 = .ok (.aload_n 0, 1) := by decide +kernel
theorem dX6_name_1 : decode cX6_name 1 = .ok (.bipush 115, 2) := by decide +kernel
theorem dX6_name_3 : decode cX6_name 3 = .ok (.bipush 116, 2) := by decide +kernel
theorem dX6_name_5 : decode cX6_name 5 = .ok (.bipush 114, 2) := by decide +kernel
theorem dX6_name_7 : decode cX6_name 7 = .ok (.bipush 101, 2) := by decide +kernel
theorem dX6_name_9 : decode cX6_name 9 = .ok (.bipush 110, 2) := by decide +kernel
theorem dX6_name_11 : decode cX6_name 11 = .ok (.bipush 103, 2) := by decide +kernel
theorem dX6_name_13 : decode cX6_name 13 = .ok (.bipush 116, 2) := by decide +kernel
theorem dX6_name_15 : decode cX6_name 15 = .ok (.bipush 104, 2) := by decide +kernel
theorem dX6_name_17 : decode cX6_name 17 = .ok (.invokevirtual 184, 3) := by decide +kernel
theorem dX6_name_20 : decode cX6_name 20 = .ok (.ifCond .eq 8, 3) := by decide +kernel
theorem dX6_name_23 : decode cX6_name 23 = .ok (.aload_n 0, 1) := by decide +kernel
theorem dX6_name_24 : decode cX6_name 24 = .ok (.getfield 188, 3) := by decide +kernel
theorem dX6_name_27 : decode cX6_name 27 = .ok (.ireturn, 1) := by decide +kernel
theorem dX6_name_28 : decode cX6_name 28 = .ok (.aload_n 0, 1) := by decide +kernel
theorem dX6_name_29 : decode cX6_name 29 = .ok (.bipush 110, 2) := by decide +kernel
theorem dX6_name_31 : decode cX6_name 31 = .ok (.bipush 101, 2) := by decide +kernel
theorem dX6_name_33 : decode cX6_name 33 = .ok (.bipush 120, 2) := by decide +kernel
theorem dX6_name_35 : decode cX6_name 35 = .ok (.bipush 116, 2) := by decide +kernel
theorem dX6_name_37 : decode cX6_name 37 = .ok (.iconst 0, 1) := by decide +kernel
theorem dX6_name_38 : decode cX6_name 38 = .ok (.iconst 0, 1) := by decide +kernel
theorem dX6_name_39 : decode cX6_name 39 = .ok (.iconst 0, 1) := by decide +kernel
theorem dX6_name_40 : decode cX6_name 40 = .ok (.iconst 0, 1) := by decide +kernel
theorem dX6_name_41 : decode cX6_name 41 = .ok (.invokevirtual 184, 3) := by decide +kernel
theorem dX6_name_44 : decode cX6_name 44 = .ok (.ifCond .eq 8, 3) := by decide +kernel
theorem dX6_name_47 : decode cX6_name 47 = .ok (.aload_n 0, 1) := by decide +kernel
theorem dX6_name_48 : decode cX6_name 48 = .ok (.getfield 191, 3) := by decide +kernel
theorem dX6_name_51 : decode cX6_name 51 = .ok (.ireturn, 1) := by decide +kernel
theorem dX6_name_52 : decode cX6_name 52 = .ok (.aload_n 0, 1) := by decide +kernel
theorem dX6_name_53 : decode cX6_name 53 = .ok (.bipush 110, 2) := by decide +kernel
theorem dX6_name_55 : decode cX6_name 55 = .ok (.bipush 117, 2) := by decide +kernel
theorem dX6_name_57 : decode cX6_name 57 = .ok (.bipush 109, 2) := by decide +kernel
theorem dX6_name_59 : decode cX6_name 59 = .ok (.bipush 98, 2) := by decide +kernel
theorem dX6_name_61 : decode cX6_name 61 = .ok (.bipush 101, 2) := by decide +kernel
theorem dX6_name_63 : decode cX6_name 63 = .ok (.bipush 114, 2) := by decide +kernel
theorem dX6_name_65 : decode cX6_name 65 = .ok (.iconst 0, 1) := by decide +kernel
theorem dX6_name_66 : decode cX6_name 66 = .ok (.iconst 0, 1) := by decide +kernel
theorem dX6_name_67 : decode cX6_name 67 = .ok (.invokevirtual 184, 3) := by decide +kernel
theorem dX6_name_70 : decode cX6_name 70 = .ok (.ifCond .eq 8, 3) := by decide +kernel
theorem dX6_name_73 : decode cX6_name 73 = .ok (.aload_n 0, 1) := by decide +kernel
theorem dX6_name_74 : decode cX6_name 74 = .ok (.getfield 194, 3) := by decide +kernel
theorem dX6_name_77 : decode cX6_name 77 = .ok (.ireturn, 1) := by decide +kernel
theorem dX6_name_78 : decode cX6_name 78 = .ok (.aload_n 0, 1) := by decide +kernel
theorem dX6_name_79 : decode cX6_name 79 = .ok (.bipush 104, 2) := by decide +kernel
theorem dX6_name_81 : decode cX6_name 81 = .ok (.bipush 111, 2) := by decide +kernel
theorem dX6_name_83 : decode cX6_name 83 = .ok (.bipush 117, 2) := by decide +kernel
theorem dX6_name_85 : decode cX6_name 85 = .ok (.bipush 114, 2) := by decide +kernel
theorem dX6_name_87 : decode cX6_name 87 = .ok (.iconst 0, 1) := by decide +kernel
theorem dX6_name_88 : decode cX6_name 88 = .ok (.iconst 0, 1) := by decide +kernel
theorem dX6_name_89 : decode cX6_name 89 = .ok (.iconst 0, 1) := by decide +kernel
theorem dX6_name_90 : decode cX6_name 90 = .ok (.iconst 0, 1) := by decide +kernel
theorem dX6_name_91 : decode cX6_name 91 = .ok (.invokevirtual 184, 3) := by decide +kernel
theorem dX6_name_94 : decode cX6_name 94 = .ok (.ifCond .eq 8, 3) := by decide +kernel
theorem dX6_name_97 : decode cX6_name 97 = .ok (.aload_n 0, 1) := by decide +kernel
theorem dX6_name_98 : decode cX6_name 98 = .ok (.getfield 197, 3) := by decide +kernel
theorem dX6_name_101 : decode cX6_name 101 = .ok (.ireturn, 1) := by decide +kernel
theorem dX6_name_102 : decode cX6_name 102 = .ok (.aload_n 0, 1) := by decide +kernel
theorem dX6_name_103 : decode cX6_name 103 = .ok (.bipush 99, 2) := by decide +kernel
theorem dX6_name_105 : decode cX6_name 105 = .ok (.bipush 111, 2) := by decide +kernel
theorem dX6_name_107 : decode cX6_name 107 = .ok (.bipush 108, 2) := by decide +kernel
theorem dX6_name_109 : decode cX6_name 109 = .ok (.bipush 100, 2) := by decide +kernel
theorem dX6_name_111 : decode cX6_name 111 = .ok (.iconst 0, 1) := by decide +kernel
theorem dX6_name_112 : decode cX6_name 112 = .ok (.iconst 0, 1) := by decide +kernel
theorem dX6_name_113 : decode cX6_name 113 = .ok (.iconst 0, 1) := by decide +kernel
theorem dX6_name_114 : decode cX6_name 114 = .ok (.iconst 0, 1) := by decide +kernel
theorem dX6_name_115 : decode cX6_name 115 = .ok (.invokevirtual 184, 3) := by decide +kernel
theorem dX6_name_118 : decode cX6_name 118 = .ok (.ifCond .eq 8, 3) := by decide +kernel
theorem dX6_name_121 : decode cX6_name 121 = .ok (.aload_n 0, 1) := by decide +kernel
theorem dX6_name_122 : decode cX6_name 122 = .ok (.getfield 200, 3) := by decide +kernel
theorem dX6_name_125 : decode cX6_name 125 = .ok (.ireturn, 1) := by decide +kernel
theorem dX6_name_126 : decode cX6_name 126 = .ok (.aload_n 0, 1) := by decide +kernel
theorem dX6_name_127 : decode cX6_name 127 = .ok (.bipush 109, 2) := by decide +kernel
theorem dX6_name_129 : decode cX6_name 129 = .ok (.bipush 97, 2) := by decide +kernel
theorem dX6_name_131 : decode cX6_name 131 = .ok (.bipush 110, 2) := by decide +kernel
theorem dX6_name_133 : decode cX6_name 133 = .ok (.bipush 121, 2) := by decide +kernel
theorem dX6_name_135 : decode cX6_name 135 = .ok (.iconst 0, 1) := by decide +kernel
theorem dX6_name_136 : decode cX6_name 136 = .ok (.iconst 0, 1) := by decide +kernel
theorem dX6_name_137 : decode cX6_name 137 = .ok (.iconst 0, 1) := by decide +kernel
theorem dX6_name_138 : decode cX6_name 138 = .ok (.iconst 0, 1) := by decide +kernel
theorem dX6_name_139 : decode cX6_name 139 = .ok (.invokevirtual 184, 3) := by decide +kernel
theorem dX6_name_142 : decode cX6_name 142 = .ok (.ifCond .eq 8, 3) := by decide +kernel
theorem dX6_name_145 : decode cX6_name 145 = .ok (.aload_n 0, 1) := by decide +kernel
theorem dX6_name_146 : decode cX6_name 146 = .ok (.getfield 203, 3) := by decide +kernel
theorem dX6_name_149 : decode cX6_name 149 = .ok (.ireturn, 1) := by decide +kernel
theorem dX6_name_150 : decode cX6_name 150 = .ok (.aload_n 0, 1) := by decide +kernel
theorem dX6_name_151 : decode cX6_name 151 = .ok (.invokevirtual 178, 3) := by decide +kernel
theorem dX6_name_154 : decode cX6_name 154 = .ok (.iconst 0, 1) := by decide +kernel
theorem dX6_name_155 : decode cX6_name 155 = .ok (.ireturn, 1) := by decide +kernel
theorem dX6_atom_0 : decode cX6_atom 0 = .ok (.iconst 0, 1) := by decide +kernel
theorem dX6_atom_1 : decode cX6_atom 1 = .ok (.istore_n 1, 1) := by decide +kernel
theorem dX6_atom_2 : decode cX6_atom 2 = .ok (.aload_n 0, 1) := by decide +kernel
theorem dX6_atom_3 : decode cX6_atom 3 = .ok (.bipush 45, 2) := by decide +kernel
theorem dX6_atom_5 : decode cX6_atom 5 = .ok (.invokevirtual 206, 3) := by decide +kernel
theorem dX6_atom_8 : decode cX6_atom 8 = .ok (.ifCond .eq 29, 3) := by decide +kernel
theorem dX6_atom_11 : decode cX6_atom 11 = .ok (.aload_n 0, 1) := by decide +kernel
theorem dX6_atom_12 : decode cX6_atom 12 = .ok (.invokevirtual 209, 3) := by decide +kernel
theorem dX6_atom_15 : decode cX6_atom 15 = .ok (.ifCond .eq 146, 3) := by decide +kernel
theorem dX6_atom_18 : decode cX6_atom 18 = .ok (.aload_n 0, 1) := by decide +kernel
theorem dX6_atom_19 : decode cX6_atom 19 = .ok (.invokevirtual 213, 3) := by decide +kernel
theorem dX6_atom_22 : decode cX6_atom 22 = .ok (.ineg, 1) := by decide +kernel
theorem dX6_atom_23 : decode cX6_atom 23 = .ok (.istore_n 1, 1) := by decide +kernel
theorem dX6_atom_24 : decode cX6_atom 24 = .ok (.aload_n 0, 1) := by decide +kernel
theorem dX6_atom_25 : decode cX6_atom 25 = .ok (.dup, 1) := by decide +kernel
theorem dX6_atom_26 : decode cX6_atom 26 = .ok (.getfield 175, 3) := by decide +kernel
theorem dX6_atom_29 : decode cX6_atom 29 = .ok (.iconst 1, 1) := by decide +kernel
theorem dX6_atom_30 : decode cX6_atom 30 = .ok (.isub, 1) := by decide +kernel
theorem dX6_atom_31 : decode cX6_atom 31 = .ok (.putfield 175, 3) := by decide +kernel
theorem dX6_atom_34 : decode cX6_atom 34 = .ok (.goto 127, 3) := by decide +kernel
theorem dX6_atom_37 : decode cX6_atom 37 = .ok (.aload_n 0, 1) := by decide +kernel
theorem dX6_atom_38 : decode cX6_atom 38 = .ok (.bipush 40, 2) := by decide +kernel
theorem dX6_atom_40 : decode cX6_atom 40 = .ok (.invokevirtual 206, 3) := by decide +kernel
theorem dX6_atom_43 : decode cX6_atom 43 = .ok (.ifCond .eq 52, 3) := by decide +kernel
theorem dX6_atom_46 : decode cX6_atom 46 = .ok (.aload_n 0, 1) := by decide +kernel
theorem dX6_atom_47 : decode cX6_atom 47 = .ok (.invokevirtual 209, 3) := by decide +kernel
theorem dX6_atom_50 : decode cX6_atom 50 = .ok (.ifCond .eq 111, 3) := by decide +kernel
theorem dX6_atom_53 : decode cX6_atom 53 = .ok (.aload_n 0, 1) := by decide +kernel
theorem dX6_atom_54 : decode cX6_atom 54 = .ok (.invokevirtual 217, 3) := by decide +kernel
theorem dX6_atom_57 : decode cX6_atom 57 = .ok (.istore_n 1, 1) := by decide +kernel
theorem dX6_atom_58 : decode cX6_atom 58 = .ok (.aload_n 0, 1) := by decide +kernel
theorem dX6_atom_59 : decode cX6_atom 59 = .ok (.bipush 41, 2) := by decide +kernel
theorem dX6_atom_61 : decode cX6_atom 61 = .ok (.invokevirtual 206, 3) := by decide +kernel
theorem dX6_atom_64 : decode cX6_atom 64 = .ok (.ifCond .ne 7, 3) := by decide +kernel
theorem dX6_atom_67 : decode cX6_atom 67 = .ok (.aload_n 0, 1) := by decide +kernel
theorem dX6_atom_68 : decode cX6_atom 68 = .ok (.invokevirtual 178, 3) := by decide +kernel
theorem dX6_atom_71 : decode cX6_atom 71 = .ok (.aload_n 0, 1) := by decide +kernel
theorem dX6_atom_72 : decode cX6_atom 72 = .ok (.dup, 1) := by decide +kernel
theorem dX6_atom_73 : decode cX6_atom 73 = .ok (.getfield 175, 3) := by decide +kernel
theorem dX6_atom_76 : decode cX6_atom 76 = .ok (.iconst 1, 1) := by decide +kernel
theorem dX6_atom_77 : decode cX6_atom 77 = .ok (.isub, 1) := by decide +kernel
theorem dX6_atom_78 : decode cX6_atom 78 = .ok (.putfield 175, 3) := by decide +kernel
theorem dX6_atom_81 : decode cX6_atom 81 = .ok (.aload_n 0, 1) := by decide +kernel
theorem dX6_atom_82 : decode cX6_atom 82 = .ok (.getfield 165, 3) := by decide +kernel
theorem dX6_atom_85 : decode cX6_atom 85 = .ok (.ifCond .ne 76, 3) := by decide +kernel
theorem dX6_atom_88 : decode cX6_atom 88 = .ok (.aload_n 0, 1) := by decide +kernel
theorem dX6_atom_89 : decode cX6_atom 89 = .ok (.invokevirtual 181, 3) := by decide +kernel
theorem dX6_atom_92 : decode cX6_atom 92 = .ok (.goto 69, 3) := by decide +kernel
theorem dX6_atom_95 : decode cX6_atom 95 = .ok (.aload_n 0, 1) := by decide +kernel
theorem dX6_atom_96 : decode cX6_atom 96 = .ok (.getfield 165, 3) := by decide +kernel
theorem dX6_atom_99 : decode cX6_atom 99 = .ok (.ifCond .ne 24, 3) := by decide +kernel
theorem dX6_atom_102 : decode cX6_atom 102 = .ok (.aload_n 0, 1) := by decide +kernel
theorem dX6_atom_103 : decode cX6_atom 103 = .ok (.getfield 148, 3) := by decide +kernel
theorem dX6_atom_106 : decode cX6_atom 106 = .ok (.iconst 2, 1) := by decide +kernel
theorem dX6_atom_107 : decode cX6_atom 107 = .ok (.if_icmp .ne 16, 3) := by decide +kernel
theorem dX6_atom_110 : decode cX6_atom 110 = .ok (.aload_n 0, 1) := by decide +kernel
theorem dX6_atom_111 : decode cX6_atom 111 = .ok (.getfield 159, 3) := by decide +kernel
theorem dX6_atom_114 : decode cX6_atom 114 = .ok (.l2i, 1) := by decide +kernel
theorem dX6_atom_115 : decode cX6_atom 115 = .ok (.istore_n 1, 1) := by decide +kernel
theorem dX6_atom_116 : decode cX6_atom 116 = .ok (.aload_n 0, 1) := by decide +kernel
theorem dX6_atom_117 : decode cX6_atom 117 = .ok (.invokevirtual 181, 3) := by decide +kernel
theorem dX6_atom_120 : decode cX6_atom 120 = .ok (.goto 41, 3) := by decide +kernel
theorem dX6_atom_123 : decode cX6_atom 123 = .ok (.aload_n 0, 1) := by decide +kernel
theorem dX6_atom_124 : decode cX6_atom 124 = .ok (.getfield 165, 3) := by decide +kernel
theorem dX6_atom_127 : decode cX6_atom 127 = .ok (.ifCond .ne 30, 3) := by decide +kernel
theorem dX6_atom_130 : decode cX6_atom 130 = .ok (.aload_n 0, 1) := by decide +kernel
theorem dX6_atom_131 : decode cX6_atom 131 = .ok (.getfield 148, 3) := by decide +kernel
theorem dX6_atom_134 : decode cX6_atom 134 = .ok (.iconst 1, 1) := by decide +kernel
theorem dX6_atom_135 : decode cX6_atom 135 = .ok (.if_icmp .ne 22, 3) := by decide +kernel
theorem dX6_atom_138 : decode cX6_atom 138 = .ok (.aload_n 0, 1) := by decide +kernel
theorem dX6_atom_139 : decode cX6_atom 139 = .ok (.invokevirtual 220, 3) := by decide +kernel
theorem dX6_atom_142 : decode cX6_atom 142 = .ok (.istore_n 1, 1) := by decide +kernel
theorem dX6_atom_143 : decode cX6_atom 143 = .ok (.aload_n 0, 1) := by decide +kernel
theorem dX6_atom_144 : decode cX6_atom 144 = .ok (.getfield 165, 3) := by decide +kernel
theorem dX6_atom_147 : decode cX6_atom 147 = .ok (.ifCond .ne 14, 3) := by decide +kernel
theorem dX6_atom_150 : decode cX6_atom 150 = .ok (.aload_n 0, 1) := by decide +kernel
theorem dX6_atom_151 : decode cX6_atom 151 = .ok (.invokevirtual 181, 3) := by decide +kernel
theorem dX6_atom_154 : decode cX6_atom 154 = .ok (.goto 7, 3) := by decide +kernel
theorem dX6_atom_157 : decode cX6_atom 157 = .ok (.aload_n 0, 1) := by decide +kernel
theorem dX6_atom_158 : decode cX6_atom 158 = .ok (.invokevirtual 178, 3) := by decide +kernel
theorem dX6_atom_161 : decode cX6_atom 161 = .ok (.iload_n 1, 1) := by decide +kernel
theorem dX6_atom_162 : decode cX6_atom 162 = .ok (.ireturn, 1) := by decide +kernel
theorem dX6_term_0 : decode cX6_term 0 = .ok (.aload_n 0, 1) := by decide +kernel
theorem dX6_term_1 : decode cX6_term 1 = .ok (.invokevirtual 213, 3) := by decide +kernel
theorem dX6_term_4 : decode cX6_term 4 = .ok (.istore_n 1, 1) := by decide +kernel
theorem dX6_term_5 : decode cX6_term 5 = .ok (.aload_n 0, 1) := by decide +kernel
theorem dX6_term_6 : decode cX6_term 6 = .ok (.bipush 42, 2) := by decide +kernel
theorem dX6_term_8 : decode cX6_term 8 = .ok (.invokevirtual 206, 3) := by decide +kernel
theorem dX6_term_11 : decode cX6_term 11 = .ok (.ifCond .eq 17, 3) := by decide +kernel
theorem dX6_term_14 : decode cX6_term 14 = .ok (.aload_n 0, 1) := by decide +kernel
theorem dX6_term_15 : decode cX6_term 15 = .ok (.invokevirtual 181, 3) := by decide +kernel
theorem dX6_term_18 : decode cX6_term 18 = .ok (.iload_n 1, 1) := by decide +kernel
theorem dX6_term_19 : decode cX6_term 19 = .ok (.aload_n 0, 1) := by decide +kernel
theorem dX6_term_20 : decode cX6_term 20 = .ok (.invokevirtual 213, 3) := by decide +kernel
theorem dX6_term_23 : decode cX6_term 23 = .ok (.imul, 1) := by decide +kernel
theorem dX6_term_24 : decode cX6_term 24 = .ok (.istore_n 1, 1) := by decide +kernel
theorem dX6_term_25 : decode cX6_term 25 = .ok (.goto (-20), 3) := by decide +kernel
theorem dX6_term_28 : decode cX6_term 28 = .ok (.iload_n 1, 1) := by decide +kernel
theorem dX6_term_29 : decode cX6_term 29 = .ok (.ireturn, 1) := by decide +kernel
theorem dX6_added_0 : decode cX6_added 0 = .ok (.aload_n 0, 1) := by decide +kernel
theorem dX6_added_1 : decode cX6_added 1 = .ok (.invokevirtual 223, 3) := by decide +kernel
theorem dX6_added_4 : decode cX6_added 4 = .ok (.istore_n 1, 1) := by decide +kernel
theorem dX6_added_5 : decode cX6_added 5 = .ok (.aload_n 0, 1) := by decide +kernel
theorem dX6_added_6 : decode cX6_added 6 = .ok (.bipush 43, 2) := by decide +kernel
theorem dX6_added_8 : decode cX6_added 8 = .ok (.invokevirtual 206, 3) := by decide +kernel
theorem dX6_added_11 : decode cX6_added 11 = .ok (.ifCond .ne 12, 3) := by decide +kernel
theorem dX6_added_14 : decode cX6_added 14 = .ok (.aload_n 0, 1) := by decide +kernel
theorem dX6_added_15 : decode cX6_added 15 = .ok (.bipush 45, 2) := by decide +kernel
theorem dX6_added_17 : decode cX6_added 17 = .ok (.invokevirtual 206, 3) := by decide +kernel
theorem dX6_added_20 : decode cX6_added 20 = .ok (.ifCond .eq 46, 3) := by decide +kernel
theorem dX6_added_23 : decode cX6_added 23 = .ok (.aload_n 0, 1) := by decide +kernel
theorem dX6_added_24 : decode cX6_added 24 = .ok (.getfield 159, 3) := by decide +kernel
theorem dX6_added_27 : decode cX6_added 27 = .ok (.ldc2_w 226, 3) := by decide +kernel
theorem dX6_added_30 : decode cX6_added 30 = .ok (.lcmp, 1) := by decide +kernel
theorem dX6_added_31 : decode cX6_added 31 = .ok (.ifCond .ne 7, 3) := by decide +kernel
theorem dX6_added_34 : decode cX6_added 34 = .ok (.iconst 1, 1) := by decide +kernel
theorem dX6_added_35 : decode cX6_added 35 = .ok (.goto 4, 3) := by decide +kernel
theorem dX6_added_38 : decode cX6_added 38 = .ok (.iconst 0, 1) := by decide +kernel
theorem dX6_added_39 : decode cX6_added 39 = .ok (.istore_n 2, 1) := by decide +kernel
theorem dX6_added_40 : decode cX6_added 40 = .ok (.aload_n 0, 1) := by decide +kernel
theorem dX6_added_41 : decode cX6_added 41 = .ok (.invokevirtual 181, 3) := by decide +kernel
theorem dX6_added_44 : decode cX6_added 44 = .ok (.aload_n 0, 1) := by decide +kernel
theorem dX6_added_45 : decode cX6_added 45 = .ok (.invokevirtual 223, 3) := by decide +kernel
theorem dX6_added_48 : decode cX6_added 48 = .ok (.istore_n 3, 1) := by decide +kernel
theorem dX6_added_49 : decode cX6_added 49 = .ok (.iload_n 2, 1) := by decide +kernel
theorem dX6_added_50 : decode cX6_added 50 = .ok (.ifCond .eq 9, 3) := by decide +kernel
theorem dX6_added_53 : decode cX6_added 53 = .ok (.iload_n 1, 1) := by decide +kernel
theorem dX6_added_54 : decode cX6_added 54 = .ok (.iload_n 3, 1) := by decide +kernel
theorem dX6_added_55 : decode cX6_added 55 = .ok (.iadd, 1) := by decide +kernel
theorem dX6_added_56 : decode cX6_added 56 = .ok (.goto 6, 3) := by decide +kernel
theorem dX6_added_59 : decode cX6_added 59 = .ok (.iload_n 1, 1) := by decide +kernel
theorem dX6_added_60 : decode cX6_added 60 = .ok (.iload_n 3, 1) := by decide +kernel
theorem dX6_added_61 : decode cX6_added 61 = .ok (.isub, 1) := by decide +kernel
theorem dX6_added_62 : decode cX6_added 62 = .ok (.istore_n 1, 1) := by decide +kernel
theorem dX6_added_63 : decode cX6_added 63 = .ok (.goto (-58), 3) := by decide +kernel
theorem dX6_added_66 : decode cX6_added 66 = .ok (.iload_n 1, 1) := by decide +kernel
theorem dX6_added_67 : decode cX6_added 67 = .ok (.ireturn, 1) := by decide +kernel
theorem dX6_not_0 : decode cX6_not 0 = .ok (.aload_n 0, 1) := by decide +kernel
theorem dX6_not_1 : decode cX6_not 1 = .ok (.bipush 110, 2) := by decide +kernel
theorem dX6_not_3 : decode cX6_not 3 = .ok (.bipush 111, 2) := by decide +kernel
theorem dX6_not_5 : decode cX6_not 5 = .ok (.bipush 116, 2) := by decide +kernel
theorem dX6_not_7 : decode cX6_not 7 = .ok (.iconst 0, 1) := by decide +kernel
theorem dX6_not_8 : decode cX6_not 8 = .ok (.iconst 0, 1) := by decide +kernel
theorem dX6_not_9 : decode cX6_not 9 = .ok (.iconst 0, 1) := by decide +kernel
theorem dX6_not_10 : decode cX6_not 10 = .ok (.iconst 0, 1) := by decide +kernel
theorem dX6_not_11 : decode cX6_not 11 = .ok (.iconst 0, 1) := by decide +kernel
theorem dX6_not_12 : decode cX6_not 12 = .ok (.invokevirtual 184, 3) := by decide +kernel
theorem dX6_not_15 : decode cX6_not 15 = .ok (.ifCond .eq 37, 3) := by decide +kernel
theorem dX6_not_18 : decode cX6_not 18 = .ok (.aload_n 0, 1) := by decide +kernel
theorem dX6_not_19 : decode cX6_not 19 = .ok (.invokevirtual 209, 3) := by decide +kernel
theorem dX6_not_22 : decode cX6_not 22 = .ok (.ifCond .ne 5, 3) := by decide +kernel
theorem dX6_not_25 : decode cX6_not 25 = .ok (.iconst 0, 1) := by decide +kernel
theorem dX6_not_26 : decode cX6_not 26 = .ok (.ireturn, 1) := by decide +kernel
theorem dX6_not_27 : decode cX6_not 27 = .ok (.aload_n 0, 1) := by decide +kernel
theorem dX6_not_28 : decode cX6_not 28 = .ok (.invokevirtual 228, 3) := by decide +kernel
theorem dX6_not_31 : decode cX6_not 31 = .ok (.istore_n 1, 1) := by decide +kernel
theorem dX6_not_32 : decode cX6_not 32 = .ok (.aload_n 0, 1) := by decide +kernel
theorem dX6_not_33 : decode cX6_not 33 = .ok (.dup, 1) := by decide +kernel
theorem dX6_not_34 : decode cX6_not 34 = .ok (.getfield 175, 3) := by decide +kernel
theorem dX6_not_37 : decode cX6_not 37 = .ok (.iconst 1, 1) := by decide +kernel
theorem dX6_not_38 : decode cX6_not 38 = .ok (.isub, 1) := by decide +kernel
theorem dX6_not_39 : decode cX6_not 39 = .ok (.putfield 175, 3) := by decide +kernel
theorem dX6_not_42 : decode cX6_not 42 = .ok (.iload_n 1, 1) := by decide +kernel
theorem dX6_not_43 : decode cX6_not 43 = .ok (.ifCond .ne 7, 3) := by decide +kernel
theorem dX6_not_46 : decode cX6_not 46 = .ok (.iconst 1, 1) := by decide +kernel
theorem dX6_not_47 : decode cX6_not 47 = .ok (.goto 4, 3) := by decide +kernel
theorem dX6_not_50 : decode cX6_not 50 = .ok (.iconst 0, 1) := by decide +kernel
theorem dX6_not_51 : decode cX6_not 51 = .ok (.ireturn, 1) := by decide +kernel
theorem dX6_not_52 : decode cX6_not 52 = .ok (.aload_n 0, 1) := by decide +kernel
theorem dX6_not_53 : decode cX6_not 53 = .ok (.invokevirtual 231, 3) := by decide +kernel
theorem dX6_not_56 : decode cX6_not 56 = .ok (.istore_n 1, 1) := by decide +kernel
theorem dX6_not_57 : decode cX6_not 57 = .ok (.aload_n 0, 1) := by decide +kernel
theorem dX6_not_58 : decode cX6_not 58 = .ok (.bipush 60, 2) := by decide +kernel
theorem dX6_not_60 : decode cX6_not 60 = .ok (.invokevirtual 206, 3) := by decide +kernel
theorem dX6_not_63 : decode cX6_not 63 = .ok (.ifCond .ne 14, 3) := by decide +kernel
theorem dX6_not_66 : decode cX6_not 66 = .ok (.aload_n 0, 1) := by decide +kernel
theorem dX6_not_67 : decode cX6_not 67 = .ok (.bipush 61, 2) := by decide +kernel
theorem dX6_not_69 : decode cX6_not 69 = .ok (.invokevirtual 206, 3) := by decide +kernel
theorem dX6_not_72 : decode cX6_not 72 = .ok (.ifCond .ne 5, 3) := by decide +kernel
theorem dX6_not_75 : decode cX6_not 75 = .ok (.iload_n 1, 1) := by decide +kernel
theorem dX6_not_76 : decode cX6_not 76 = .ok (.ireturn, 1) := by decide +kernel
theorem dX6_not_77 : decode cX6_not 77 = .ok (.aload_n 0, 1) := by decide +kernel
theorem dX6_not_78 : decode cX6_not 78 = .ok (.getfield 159, 3) := by decide +kernel
theorem dX6_not_81 : decode cX6_not 81 = .ok (.ldc2_w 234, 3) := by decide +kernel
theorem dX6_not_84 : decode cX6_not 84 = .ok (.lcmp, 1) := by decide +kernel
theorem dX6_not_85 : decode cX6_not 85 = .ok (.ifCond .ne 7, 3) := by decide +kernel
theorem dX6_not_88 : decode cX6_not 88 = .ok (.iconst 1, 1) := by decide +kernel
theorem dX6_not_89 : decode cX6_not 89 = .ok (.goto 4, 3) := by decide +kernel
theorem dX6_not_92 : decode cX6_not 92 = .ok (.iconst 0, 1) := by decide +kernel
theorem dX6_not_93 : decode cX6_not 93 = .ok (.istore_n 2, 1) := by decide +kernel
theorem dX6_not_94 : decode cX6_not 94 = .ok (.aload_n 0, 1) := by decide +kernel
theorem dX6_not_95 : decode cX6_not 95 = .ok (.invokevirtual 181, 3) := by decide +kernel
theorem dX6_not_98 : decode cX6_not 98 = .ok (.aload_n 0, 1) := by decide +kernel
theorem dX6_not_99 : decode cX6_not 99 = .ok (.invokevirtual 231, 3) := by decide +kernel
theorem dX6_not_102 : decode cX6_not 102 = .ok (.istore_n 3, 1) := by decide +kernel
theorem dX6_not_103 : decode cX6_not 103 = .ok (.iload_n 2, 1) := by decide +kernel
theorem dX6_not_104 : decode cX6_not 104 = .ok (.ifCond .eq 11, 3) := by decide +kernel
theorem dX6_not_107 : decode cX6_not 107 = .ok (.iload_n 1, 1) := by decide +kernel
theorem dX6_not_108 : decode cX6_not 108 = .ok (.iload_n 3, 1) := by decide +kernel
theorem dX6_not_109 : decode cX6_not 109 = .ok (.if_icmp .ge 15, 3) := by decide +kernel
theorem dX6_not_112 : decode cX6_not 112 = .ok (.goto 8, 3) := by decide +kernel
theorem dX6_not_115 : decode cX6_not 115 = .ok (.iload_n 1, 1) := by decide +kernel
theorem dX6_not_116 : decode cX6_not 116 = .ok (.iload_n 3, 1) := by decide +kernel
theorem dX6_not_117 : decode cX6_not 117 = .ok (.if_icmp .ne 7, 3) := by decide +kernel
theorem dX6_not_120 : decode cX6_not 120 = .ok (.iconst 1, 1) := by decide +kernel
theorem dX6_not_121 : decode cX6_not 121 = .ok (.goto 4, 3) := by decide +kernel
theorem dX6_not_124 : decode cX6_not 124 = .ok (.iconst 0, 1) := by decide +kernel
theorem dX6_not_125 : decode cX6_not 125 = .ok (.ireturn, 1) := by decide +kernel
theorem dX6_both_0 : decode cX6_both 0 = .ok (.aload_n 0, 1) := by decide +kernel
theorem dX6_both_1 : decode cX6_both 1 = .ok (.invokevirtual 228, 3) := by decide +kernel
theorem dX6_both_4 : decode cX6_both 4 = .ok (.istore_n 1, 1) := by decide +kernel
theorem dX6_both_5 : decode cX6_both 5 = .ok (.aload_n 0, 1) := by decide +kernel
theorem dX6_both_6 : decode cX6_both 6 = .ok (.bipush 97, 2) := by decide +kernel
theorem dX6_both_8 : decode cX6_both 8 = .ok (.bipush 110, 2) := by decide +kernel
theorem dX6_both_10 : decode cX6_both 10 = .ok (.bipush 100, 2) := by decide +kernel
theorem dX6_both_12 : decode cX6_both 12 = .ok (.iconst 0, 1) := by decide +kernel
theorem dX6_both_13 : decode cX6_both 13 = .ok (.iconst 0, 1) := by decide +kernel
theorem dX6_both_14 : decode cX6_both 14 = .ok (.iconst 0, 1) := by decide +kernel
theorem dX6_both_15 : decode cX6_both 15 = .ok (.iconst 0, 1) := by decide +kernel
theorem dX6_both_16 : decode cX6_both 16 = .ok (.iconst 0, 1) := by decide +kernel
theorem dX6_both_17 : decode cX6_both 17 = .ok (.invokevirtual 184, 3) := by decide +kernel
theorem dX6_both_20 : decode cX6_both 20 = .ok (.ifCond .eq 29, 3) := by decide +kernel
theorem dX6_both_23 : decode cX6_both 23 = .ok (.aload_n 0, 1) := by decide +kernel
theorem dX6_both_24 : decode cX6_both 24 = .ok (.invokevirtual 181, 3) := by decide +kernel
theorem dX6_both_27 : decode cX6_both 27 = .ok (.aload_n 0, 1) := by decide +kernel
theorem dX6_both_28 : decode cX6_both 28 = .ok (.invokevirtual 228, 3) := by decide +kernel
theorem dX6_both_31 : decode cX6_both 31 = .ok (.istore_n 2, 1) := by decide +kernel
theorem dX6_both_32 : decode cX6_both 32 = .ok (.iload_n 1, 1) := by decide +kernel
theorem dX6_both_33 : decode cX6_both 33 = .ok (.ifCond .eq 11, 3) := by decide +kernel
theorem dX6_both_36 : decode cX6_both 36 = .ok (.iload_n 2, 1) := by decide +kernel
theorem dX6_both_37 : decode cX6_both 37 = .ok (.ifCond .eq 7, 3) := by decide +kernel
theorem dX6_both_40 : decode cX6_both 40 = .ok (.iconst 1, 1) := by decide +kernel
theorem dX6_both_41 : decode cX6_both 41 = .ok (.goto 4, 3) := by decide +kernel
theorem dX6_both_44 : decode cX6_both 44 = .ok (.iconst 0, 1) := by decide +kernel
theorem dX6_both_45 : decode cX6_both 45 = .ok (.istore_n 1, 1) := by decide +kernel
theorem dX6_both_46 : decode cX6_both 46 = .ok (.goto (-41), 3) := by decide +kernel
theorem dX6_both_49 : decode cX6_both 49 = .ok (.iload_n 1, 1) := by decide +kernel
theorem dX6_both_50 : decode cX6_both 50 = .ok (.ireturn, 1) := by decide +kernel
theorem dX6_either_0 : decode cX6_either 0 = .ok (.aload_n 0, 1) := by decide +kernel
theorem dX6_either_1 : decode cX6_either 1 = .ok (.invokevirtual 236, 3) := by decide +kernel
theorem dX6_either_4 : decode cX6_either 4 = .ok (.istore_n 1, 1) := by decide +kernel
theorem dX6_either_5 : decode cX6_either 5 = .ok (.aload_n 0, 1) := by decide +kernel
theorem dX6_either_6 : decode cX6_either 6 = .ok (.bipush 111, 2) := by decide +kernel
theorem dX6_either_8 : decode cX6_either 8 = .ok (.bipush 114, 2) := by decide +kernel
theorem dX6_either_10 : decode cX6_either 10 = .ok (.iconst 0, 1) := by decide +kernel
theorem dX6_either_11 : decode cX6_either 11 = .ok (.iconst 0, 1) := by decide +kernel
theorem dX6_either_12 : decode cX6_either 12 = .ok (.iconst 0, 1) := by decide +kernel
theorem dX6_either_13 : decode cX6_either 13 = .ok (.iconst 0, 1) := by decide +kernel
theorem dX6_either_14 : decode cX6_either 14 = .ok (.iconst 0, 1) := by decide +kernel
theorem dX6_either_15 : decode cX6_either 15 = .ok (.iconst 0, 1) := by decide +kernel
theorem dX6_either_16 : decode cX6_either 16 = .ok (.invokevirtual 184, 3) := by decide +kernel
theorem dX6_either_19 : decode cX6_either 19 = .ok (.ifCond .eq 29, 3) := by decide +kernel
theorem dX6_either_22 : decode cX6_either 22 = .ok (.aload_n 0, 1) := by decide +kernel
theorem dX6_either_23 : decode cX6_either 23 = .ok (.invokevirtual 181, 3) := by decide +kernel
theorem dX6_either_26 : decode cX6_either 26 = .ok (.aload_n 0, 1) := by decide +kernel
theorem dX6_either_27 : decode cX6_either 27 = .ok (.invokevirtual 236, 3) := by decide +kernel
theorem dX6_either_30 : decode cX6_either 30 = .ok (.istore_n 2, 1) := by decide +kernel
theorem dX6_either_31 : decode cX6_either 31 = .ok (.iload_n 1, 1) := by decide +kernel
theorem dX6_either_32 : decode cX6_either 32 = .ok (.ifCond .ne 7, 3) := by decide +kernel
theorem dX6_either_35 : decode cX6_either 35 = .ok (.iload_n 2, 1) := by decide +kernel
theorem dX6_either_36 : decode cX6_either 36 = .ok (.ifCond .eq 7, 3) := by decide +kernel
theorem dX6_either_39 : decode cX6_either 39 = .ok (.iconst 1, 1) := by decide +kernel
theorem dX6_either_40 : decode cX6_either 40 = .ok (.goto 4, 3) := by decide +kernel
theorem dX6_either_43 : decode cX6_either 43 = .ok (.iconst 0, 1) := by decide +kernel
theorem dX6_either_44 : decode cX6_either 44 = .ok (.istore_n 1, 1) := by decide +kernel
theorem dX6_either_45 : decode cX6_either 45 = .ok (.goto (-40), 3) := by decide +kernel
theorem dX6_either_48 : decode cX6_either 48 = .ok (.iload_n 1, 1) := by decide +kernel
theorem dX6_either_49 : decode cX6_either 49 = .ok (.ireturn, 1) := by decide +kernel
theorem dX6_part_0 : decode cX6_part 0 = .ok (.iload_n 1, 1) := by decide +kernel
theorem dX6_part_1 : decode cX6_part 1 = .ok (.ifCond .ne 7, 3) := by decide +kernel
theorem dX6_part_4 : decode cX6_part 4 = .ok (.aload_n 0, 1) := by decide +kernel
theorem dX6_part_5 : decode cX6_part 5 = .ok (.invokevirtual 178, 3) := by decide +kernel
theorem dX6_part_8 : decode cX6_part 8 = .ok (.aload_n 0, 1) := by decide +kernel
theorem dX6_part_9 : decode cX6_part 9 = .ok (.getfield 165, 3) := by decide +kernel
theorem dX6_part_12 : decode cX6_part 12 = .ok (.ifCond .ne 7, 3) := by decide +kernel
theorem dX6_part_15 : decode cX6_part 15 = .ok (.aload_n 0, 1) := by decide +kernel
theorem dX6_part_16 : decode cX6_part 16 = .ok (.invokevirtual 181, 3) := by decide +kernel
theorem dX6_part_19 : decode cX6_part 19 = .ok (.aload_n 0, 1) := by decide +kernel
theorem dX6_part_20 : decode cX6_part 20 = .ok (.getfield 165, 3) := by decide +kernel
theorem dX6_part_23 : decode cX6_part 23 = .ok (.ifCond .eq 7, 3) := by decide +kernel
theorem dX6_part_26 : decode cX6_part 26 = .ok (.iconst 0, 1) := by decide +kernel
theorem dX6_part_27 : decode cX6_part 27 = .ok (.goto 7, 3) := by decide +kernel
theorem dX6_part_30 : decode cX6_part 30 = .ok (.aload_n 0, 1) := by decide +kernel
theorem dX6_part_31 : decode cX6_part 31 = .ok (.invokevirtual 217, 3) := by decide +kernel
theorem dX6_part_34 : decode cX6_part 34 = .ok (.istore_n 2, 1) := by decide +kernel
theorem dX6_part_35 : decode cX6_part 35 = .ok (.aload_n 0, 1) := by decide +kernel
theorem dX6_part_36 : decode cX6_part 36 = .ok (.bipush 59, 2) := by decide +kernel
theorem dX6_part_38 : decode cX6_part 38 = .ok (.invokevirtual 206, 3) := by decide +kernel
theorem dX6_part_41 : decode cX6_part 41 = .ok (.ifCond .ne 7, 3) := by decide +kernel
theorem dX6_part_44 : decode cX6_part 44 = .ok (.aload_n 0, 1) := by decide +kernel
theorem dX6_part_45 : decode cX6_part 45 = .ok (.invokevirtual 178, 3) := by decide +kernel
theorem dX6_part_48 : decode cX6_part 48 = .ok (.aload_n 0, 1) := by decide +kernel
theorem dX6_part_49 : decode cX6_part 49 = .ok (.getfield 165, 3) := by decide +kernel
theorem dX6_part_52 : decode cX6_part 52 = .ok (.ifCond .ne 7, 3) := by decide +kernel
theorem dX6_part_55 : decode cX6_part 55 = .ok (.aload_n 0, 1) := by decide +kernel
theorem dX6_part_56 : decode cX6_part 56 = .ok (.invokevirtual 181, 3) := by decide +kernel
theorem dX6_part_59 : decode cX6_part 59 = .ok (.iload_n 2, 1) := by decide +kernel
theorem dX6_part_60 : decode cX6_part 60 = .ok (.ireturn, 1) := by decide +kernel
theorem dX6_read_0 : decode cX6_read 0 = .ok (.aload_n 0, 1) := by decide +kernel
theorem dX6_read_1 : decode cX6_read 1 = .ok (.sipush 160, 3) := by decide +kernel
theorem dX6_read_4 : decode cX6_read 4 = .ok (.iload_n 1, 1) := by decide +kernel
theorem dX6_read_5 : decode cX6_read 5 = .ok (.imul, 1) := by decide +kernel
theorem dX6_read_6 : decode cX6_read 6 = .ok (.putfield 136, 3) := by decide +kernel
theorem dX6_read_9 : decode cX6_read 9 = .ok (.aload_n 0, 1) := by decide +kernel
theorem dX6_read_10 : decode cX6_read 10 = .ok (.aload_n 0, 1) := by decide +kernel
theorem dX6_read_11 : decode cX6_read 11 = .ok (.getfield 17, 3) := by decide +kernel
theorem dX6_read_14 : decode cX6_read 14 = .ok (.iload_n 1, 1) := by decide +kernel
theorem dX6_read_15 : decode cX6_read 15 = .ok (.iaload, 1) := by decide +kernel
theorem dX6_read_16 : decode cX6_read 16 = .ok (.putfield 133, 3) := by decide +kernel
theorem dX6_read_19 : decode cX6_read 19 = .ok (.aload_n 0, 1) := by decide +kernel
theorem dX6_read_20 : decode cX6_read 20 = .ok (.iconst 0, 1) := by decide +kernel
theorem dX6_read_21 : decode cX6_read 21 = .ok (.putfield 139, 3) := by decide +kernel
theorem dX6_read_24 : decode cX6_read 24 = .ok (.aload_n 0, 1) := by decide +kernel
theorem dX6_read_25 : decode cX6_read 25 = .ok (.iconst 0, 1) := by decide +kernel
theorem dX6_read_26 : decode cX6_read 26 = .ok (.putfield 175, 3) := by decide +kernel
theorem dX6_read_29 : decode cX6_read 29 = .ok (.aload_n 0, 1) := by decide +kernel
theorem dX6_read_30 : decode cX6_read 30 = .ok (.iconst 0, 1) := by decide +kernel
theorem dX6_read_31 : decode cX6_read 31 = .ok (.putfield 165, 3) := by decide +kernel
theorem dX6_read_34 : decode cX6_read 34 = .ok (.aload_n 0, 1) := by decide +kernel
theorem dX6_read_35 : decode cX6_read 35 = .ok (.invokevirtual 181, 3) := by decide +kernel
theorem dX6_read_38 : decode cX6_read 38 = .ok (.aload_n 0, 1) := by decide +kernel
theorem dX6_read_39 : decode cX6_read 39 = .ok (.aload_n 0, 1) := by decide +kernel
theorem dX6_read_40 : decode cX6_read 40 = .ok (.bipush 103, 2) := by decide +kernel
theorem dX6_read_42 : decode cX6_read 42 = .ok (.bipush 114, 2) := by decide +kernel
theorem dX6_read_44 : decode cX6_read 44 = .ok (.bipush 105, 2) := by decide +kernel
theorem dX6_read_46 : decode cX6_read 46 = .ok (.bipush 112, 2) := by decide +kernel
theorem dX6_read_48 : decode cX6_read 48 = .ok (.bipush 115, 2) := by decide +kernel
theorem dX6_read_50 : decode cX6_read 50 = .ok (.iconst 0, 1) := by decide +kernel
theorem dX6_read_51 : decode cX6_read 51 = .ok (.iconst 0, 1) := by decide +kernel
theorem dX6_read_52 : decode cX6_read 52 = .ok (.iconst 0, 1) := by decide +kernel
theorem dX6_read_53 : decode cX6_read 53 = .ok (.invokevirtual 184, 3) := by decide +kernel
theorem dX6_read_56 : decode cX6_read 56 = .ok (.invokevirtual 239, 3) := by decide +kernel
theorem dX6_read_59 : decode cX6_read 59 = .ok (.istore_n 3, 1) := by decide +kernel
theorem dX6_read_60 : decode cX6_read 60 = .ok (.aload_n 0, 1) := by decide +kernel
theorem dX6_read_61 : decode cX6_read 61 = .ok (.getfield 165, 3) := by decide +kernel
theorem dX6_read_64 : decode cX6_read 64 = .ok (.ifCond .eq 7, 3) := by decide +kernel
theorem dX6_read_67 : decode cX6_read 67 = .ok (.iconst 0, 1) := by decide +kernel
theorem dX6_read_68 : decode cX6_read 68 = .ok (.goto 24, 3) := by decide +kernel
theorem dX6_read_71 : decode cX6_read 71 = .ok (.aload_n 0, 1) := by decide +kernel
theorem dX6_read_72 : decode cX6_read 72 = .ok (.aload_n 0, 1) := by decide +kernel
theorem dX6_read_73 : decode cX6_read 73 = .ok (.bipush 104, 2) := by decide +kernel
theorem dX6_read_75 : decode cX6_read 75 = .ok (.bipush 97, 2) := by decide +kernel
theorem dX6_read_77 : decode cX6_read 77 = .ok (.bipush 110, 2) := by decide +kernel
theorem dX6_read_79 : decode cX6_read 79 = .ok (.bipush 100, 2) := by decide +kernel
theorem dX6_read_81 : decode cX6_read 81 = .ok (.bipush 115, 2) := by decide +kernel
theorem dX6_read_83 : decode cX6_read 83 = .ok (.iconst 0, 1) := by decide +kernel
theorem dX6_read_84 : decode cX6_read 84 = .ok (.iconst 0, 1) := by decide +kernel
theorem dX6_read_85 : decode cX6_read 85 = .ok (.iconst 0, 1) := by decide +kernel
theorem dX6_read_86 : decode cX6_read 86 = .ok (.invokevirtual 184, 3) := by decide +kernel
theorem dX6_read_89 : decode cX6_read 89 = .ok (.invokevirtual 239, 3) := by decide +kernel
theorem dX6_read_92 : decode cX6_read 92 = .ok (.istore 4, 2) := by decide +kernel
