theorem dX5_readBack_36 : decode cX5_readBack 36 = .ok (.invokestatic 71, 3) := by decide +kernel
theorem dX5_readBack_39 : decode cX5_readBack 39 = .ok (.iconst 1, 1) := by decide +kernel
theorem dX5_readBack_40 : decode cX5_readBack 40 = .ok (.iadd, 1) := by decide +kernel
theorem dX5_readBack_41 : decode cX5_readBack 41 = .ok (.istore 5, 2) := by decide +kernel
theorem dX5_readBack_43 : decode cX5_readBack 43 = .ok (.iconst 0, 1) := by decide +kernel
theorem dX5_readBack_44 : decode cX5_readBack 44 = .ok (.istore 6, 2) := by decide +kernel
theorem dX5_readBack_46 : decode cX5_readBack 46 = .ok (.iconst 0, 1) := by decide +kernel
theorem dX5_readBack_47 : decode cX5_readBack 47 = .ok (.istore 7, 2) := by decide +kernel
theorem dX5_readBack_49 : decode cX5_readBack 49 = .ok (.iconst (-1), 1) := by decide +kernel
theorem dX5_readBack_50 : decode cX5_readBack 50 = .ok (.istore 8, 2) := by decide +kernel
theorem dX5_readBack_52 : decode cX5_readBack 52 = .ok (.aload_n 0, 1) := by decide +kernel
theorem dX5_readBack_53 : decode cX5_readBack 53 = .ok (.getfield 32, 3) := by decide +kernel
theorem dX5_readBack_56 : decode cX5_readBack 56 = .ok (.aload_n 0, 1) := by decide +kernel
theorem dX5_readBack_57 : decode cX5_readBack 57 = .ok (.getfield 28, 3) := by decide +kernel
theorem dX5_readBack_60 : decode cX5_readBack 60 = .ok (.invokevirtual 153, 3) := by decide +kernel
theorem dX5_readBack_63 : decode cX5_readBack 63 = .ok (.iconst 0, 1) := by decide +kernel
theorem dX5_readBack_64 : decode cX5_readBack 64 = .ok (.istore 9, 2) := by decide +kernel
theorem dX5_readBack_66 : decode cX5_readBack 66 = .ok (.iload 9, 2) := by decide +kernel
theorem dX5_readBack_68 : decode cX5_readBack 68 = .ok (.iload 5, 2) := by decide +kernel
theorem dX5_readBack_70 : decode cX5_readBack 70 = .ok (.if_icmp .ge 60, 3) := by decide +kernel
theorem dX5_readBack_73 : decode cX5_readBack 73 = .ok (.aload_n 0, 1) := by decide +kernel
theorem dX5_readBack_74 : decode cX5_readBack 74 = .ok (.getfield 32, 3) := by decide +kernel
theorem dX5_readBack_77 : decode cX5_readBack 77 = .ok (.iload 4, 2) := by decide +kernel
theorem dX5_readBack_79 : decode cX5_readBack 79 = .ok (.iload_n 2, 1) := by decide +kernel
theorem dX5_readBack_80 : decode cX5_readBack 80 = .ok (.iload 9, 2) := by decide +kernel
theorem dX5_readBack_82 : decode cX5_readBack 82 = .ok (.invokevirtual 82, 3) := by decide +kernel
theorem dX5_readBack_85 : decode cX5_readBack 85 = .ok (.aload_n 0, 1) := by decide +kernel
theorem dX5_readBack_86 : decode cX5_readBack 86 = .ok (.getfield 32, 3) := by decide +kernel
theorem dX5_readBack_89 : decode cX5_readBack 89 = .ok (.aload_n 1, 1) := by decide +kernel
theorem dX5_readBack_90 : decode cX5_readBack 90 = .ok (.invokevirtual 188, 3) := by decide +kernel
theorem dX5_readBack_93 : decode cX5_readBack 93 = .ok (.iconst (-1), 1) := by decide +kernel
theorem dX5_readBack_94 : decode cX5_readBack 94 = .ok (.if_icmp .ne 30, 3) := by decide +kernel
theorem dX5_readBack_97 : decode cX5_readBack 97 = .ok (.iload 6, 2) := by decide +kernel
theorem dX5_readBack_99 : decode cX5_readBack 99 = .ok (.iconst 1, 1) := by decide +kernel
theorem dX5_readBack_100 : decode cX5_readBack 100 = .ok (.iload 9, 2) := by decide +kernel
theorem dX5_readBack_102 : decode cX5_readBack 102 = .ok (.ishl, 1) := by decide +kernel
theorem dX5_readBack_103 : decode cX5_readBack 103 = .ok (.ior, 1) := by decide +kernel
theorem dX5_readBack_104 : decode cX5_readBack 104 = .ok (.istore 6, 2) := by decide +kernel
theorem dX5_readBack_106 : decode cX5_readBack 106 = .ok (.iinc 7 1, 3) := by decide +kernel
theorem dX5_readBack_109 : decode cX5_readBack 109 = .ok (.iload 8, 2) := by decide +kernel
theorem dX5_readBack_111 : decode cX5_readBack 111 = .ok (.iconst (-1), 1) := by decide +kernel
theorem dX5_readBack_112 : decode cX5_readBack 112 = .ok (.if_icmp .ne 8, 3) := by decide +kernel
theorem dX5_readBack_115 : decode cX5_readBack 115 = .ok (.iload 9, 2) := by decide +kernel
theorem dX5_readBack_117 : decode cX5_readBack 117 = .ok (.goto 5, 3) := by decide +kernel
theorem dX5_readBack_120 : decode cX5_readBack 120 = .ok (.iload 8, 2) := by decide +kernel
theorem dX5_readBack_122 : decode cX5_readBack 122 = .ok (.istore 8, 2) := by decide +kernel
theorem dX5_readBack_124 : decode cX5_readBack 124 = .ok (.iinc 9 1, 3) := by decide +kernel
theorem dX5_readBack_127 : decode cX5_readBack 127 = .ok (.goto (-61), 3) := by decide +kernel
theorem dX5_readBack_130 : decode cX5_readBack 130 = .ok (.iload_n 3, 1) := by decide +kernel
theorem dX5_readBack_131 : decode cX5_readBack 131 = .ok (.tableswitch 35 3 6 #[29, 32, 29, 32], 29) := by decide +kernel
theorem dX5_readBack_160 : decode cX5_readBack 160 = .ok (.iload 7, 2) := by decide +kernel
theorem dX5_readBack_162 : decode cX5_readBack 162 = .ok (.ireturn, 1) := by decide +kernel
theorem dX5_readBack_163 : decode cX5_readBack 163 = .ok (.iload 8, 2) := by decide +kernel
theorem dX5_readBack_165 : decode cX5_readBack 165 = .ok (.ireturn, 1) := by decide +kernel
theorem dX5_readBack_166 : decode cX5_readBack 166 = .ok (.iload 6, 2) := by decide +kernel
theorem dX5_readBack_168 : decode cX5_readBack 168 = .ok (.ireturn, 1) := by decide +kernel
theorem dX5_traitReadBack_0 : decode cX5_traitReadBack 0 = .ok (.iload_n 0, 1) := by decide +kernel
theorem dX5_traitReadBack_1 : decode cX5_traitReadBack 1 = .ok (.tableswitch 47 1 6 #[39, 41, 43, 43, 45, 45], 39) := by decide +kernel
theorem dX5_traitReadBack_40 : decode cX5_traitReadBack 40 = .ok (.iconst 4, 1) := by decide +kernel
theorem dX5_traitReadBack_41 : decode cX5_traitReadBack 41 = .ok (.ireturn, 1) := by decide +kernel
theorem dX5_traitReadBack_42 : decode cX5_traitReadBack 42 = .ok (.iconst 2, 1) := by decide +kernel
theorem dX5_traitReadBack_43 : decode cX5_traitReadBack 43 = .ok (.ireturn, 1) := by decide +kernel
theorem dX5_traitReadBack_44 : decode cX5_traitReadBack 44 = .ok (.iconst 3, 1) := by decide +kernel
theorem dX5_traitReadBack_45 : decode cX5_traitReadBack 45 = .ok (.ireturn, 1) := by decide +kernel
theorem dX5_traitReadBack_46 : decode cX5_traitReadBack 46 = .ok (.iconst 1, 1) := by decide +kernel
theorem dX5_traitReadBack_47 : decode cX5_traitReadBack 47 = .ok (.ireturn, 1) := by decide +kernel
theorem dX5_traitReadBack_48 : decode cX5_traitReadBack 48 = .ok (.bipush 9, 2) := by decide +kernel
theorem dX5_traitReadBack_50 : decode cX5_traitReadBack 50 = .ok (.ireturn, 1) := by decide +kernel
