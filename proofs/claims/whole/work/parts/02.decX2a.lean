theorem dX2_init_0 : decode cX2_init 0 = .ok (.aload_n 0, 1) := by decide +kernel
theorem dX2_init_1 : decode cX2_init 1 = .ok (.invokespecial 3, 3) := by decide +kernel
theorem dX2_init_4 : decode cX2_init 4 = .ok (.aload_n 0, 1) := by decide +kernel
theorem dX2_init_5 : decode cX2_init 5 = .ok (.sipush 160, 3) := by decide +kernel
theorem dX2_init_8 : decode cX2_init 8 = .ok (.newarray .int, 2) := by decide +kernel
theorem dX2_init_10 : decode cX2_init 10 = .ok (.putfield 9, 3) := by decide +kernel
theorem dX2_init_13 : decode cX2_init 13 = .ok (.aload_n 0, 1) := by decide +kernel
theorem dX2_init_14 : decode cX2_init 14 = .ok (.aload_n 1, 1) := by decide +kernel
theorem dX2_init_15 : decode cX2_init 15 = .ok (.putfield 15, 3) := by decide +kernel
theorem dX2_init_18 : decode cX2_init 18 = .ok (.return_, 1) := by decide +kernel
theorem dX2_add_0 : decode cX2_add 0 = .ok (.aload_n 0, 1) := by decide +kernel
theorem dX2_add_1 : decode cX2_add 1 = .ok (.getfield 19, 3) := by decide +kernel
theorem dX2_add_4 : decode cX2_add 4 = .ok (.sipush 160, 3) := by decide +kernel
theorem dX2_add_7 : decode cX2_add 7 = .ok (.if_icmp .lt 5, 3) := by decide +kernel
theorem dX2_add_10 : decode cX2_add 10 = .ok (.iconst 0, 1) := by decide +kernel
theorem dX2_add_11 : decode cX2_add 11 = .ok (.ireturn, 1) := by decide +kernel
theorem dX2_add_12 : decode cX2_add 12 = .ok (.aload_n 0, 1) := by decide +kernel
theorem dX2_add_13 : decode cX2_add 13 = .ok (.getfield 9, 3) := by decide +kernel
theorem dX2_add_16 : decode cX2_add 16 = .ok (.aload_n 0, 1) := by decide +kernel
theorem dX2_add_17 : decode cX2_add 17 = .ok (.getfield 19, 3) := by decide +kernel
theorem dX2_add_20 : decode cX2_add 20 = .ok (.iload_n 1, 1) := by decide +kernel
theorem dX2_add_21 : decode cX2_add 21 = .ok (.iastore, 1) := by decide +kernel
theorem dX2_add_22 : decode cX2_add 22 = .ok (.aload_n 0, 1) := by decide +kernel
theorem dX2_add_23 : decode cX2_add 23 = .ok (.dup, 1) := by decide +kernel
theorem dX2_add_24 : decode cX2_add 24 = .ok (.getfield 19, 3) := by decide +kernel
theorem dX2_add_27 : decode cX2_add 27 = .ok (.iconst 1, 1) := by decide +kernel
theorem dX2_add_28 : decode cX2_add 28 = .ok (.iadd, 1) := by decide +kernel
theorem dX2_add_29 : decode cX2_add 29 = .ok (.putfield 19, 3) := by decide +kernel
theorem dX2_add_32 : decode cX2_add 32 = .ok (.iconst 1, 1) := by decide +kernel
theorem dX2_add_33 : decode cX2_add 33 = .ok (.ireturn, 1) := by decide +kernel
theorem dX2_read_0 : decode cX2_read 0 = .ok (.aload_n 0, 1) := by decide +kernel
theorem dX2_read_1 : decode cX2_read 1 = .ok (.iconst 0, 1) := by decide +kernel
theorem dX2_read_2 : decode cX2_read 2 = .ok (.putfield 23, 3) := by decide +kernel
theorem dX2_read_5 : decode cX2_read 5 = .ok (.aload_n 0, 1) := by decide +kernel
theorem dX2_read_6 : decode cX2_read 6 = .ok (.getfield 15, 3) := by decide +kernel
theorem dX2_read_9 : decode cX2_read 9 = .ok (.invokevirtual 26, 3) := by decide +kernel
theorem dX2_read_12 : decode cX2_read 12 = .ok (.aload_n 0, 1) := by decide +kernel
theorem dX2_read_13 : decode cX2_read 13 = .ok (.invokevirtual 31, 3) := by decide +kernel
theorem dX2_read_16 : decode cX2_read 16 = .ok (.iconst 1, 1) := by decide +kernel
theorem dX2_read_17 : decode cX2_read 17 = .ok (.istore_n 1, 1) := by decide +kernel
theorem dX2_read_18 : decode cX2_read 18 = .ok (.iconst 0, 1) := by decide +kernel
theorem dX2_read_19 : decode cX2_read 19 = .ok (.istore_n 2, 1) := by decide +kernel
theorem dX2_read_20 : decode cX2_read 20 = .ok (.iload_n 2, 1) := by decide +kernel
theorem dX2_read_21 : decode cX2_read 21 = .ok (.iconst 3, 1) := by decide +kernel
theorem dX2_read_22 : decode cX2_read 22 = .ok (.if_icmp .ge 19, 3) := by decide +kernel
theorem dX2_read_25 : decode cX2_read 25 = .ok (.iload_n 1, 1) := by decide +kernel
theorem dX2_read_26 : decode cX2_read 26 = .ok (.ifCond .eq 15, 3) := by decide +kernel
theorem dX2_read_29 : decode cX2_read 29 = .ok (.aload_n 0, 1) := by decide +kernel
theorem dX2_read_30 : decode cX2_read 30 = .ok (.iload_n 2, 1) := by decide +kernel
theorem dX2_read_31 : decode cX2_read 31 = .ok (.invokevirtual 34, 3) := by decide +kernel
theorem dX2_read_34 : decode cX2_read 34 = .ok (.istore_n 1, 1) := by decide +kernel
theorem dX2_read_35 : decode cX2_read 35 = .ok (.iinc 2 1, 3) := by decide +kernel
theorem dX2_read_38 : decode cX2_read 38 = .ok (.goto (-18), 3) := by decide +kernel
theorem dX2_read_41 : decode cX2_read 41 = .ok (.iload_n 1, 1) := by decide +kernel
theorem dX2_read_42 : decode cX2_read 42 = .ok (.ifCond .eq 14, 3) := by decide +kernel
theorem dX2_read_45 : decode cX2_read 45 = .ok (.aload_n 0, 1) := by decide +kernel
theorem dX2_read_46 : decode cX2_read 46 = .ok (.getfield 38, 3) := by decide +kernel
theorem dX2_read_49 : decode cX2_read 49 = .ok (.ifCond .ne 7, 3) := by decide +kernel
theorem dX2_read_52 : decode cX2_read 52 = .ok (.iconst 1, 1) := by decide +kernel
theorem dX2_read_53 : decode cX2_read 53 = .ok (.goto 4, 3) := by decide +kernel
theorem dX2_read_56 : decode cX2_read 56 = .ok (.iconst 0, 1) := by decide +kernel
theorem dX2_read_57 : decode cX2_read 57 = .ok (.istore_n 1, 1) := by decide +kernel
theorem dX2_read_58 : decode cX2_read 58 = .ok (.iload_n 1, 1) := by decide +kernel
theorem dX2_read_59 : decode cX2_read 59 = .ok (.ifCond .eq 16, 3) := by decide +kernel
theorem dX2_read_62 : decode cX2_read 62 = .ok (.aload_n 0, 1) := by decide +kernel
theorem dX2_read_63 : decode cX2_read 63 = .ok (.getfield 15, 3) := by decide +kernel
theorem dX2_read_66 : decode cX2_read 66 = .ok (.dup, 1) := by decide +kernel
theorem dX2_read_67 : decode cX2_read 67 = .ok (.getfield 41, 3) := by decide +kernel
theorem dX2_read_70 : decode cX2_read 70 = .ok (.iconst 1, 1) := by decide +kernel
theorem dX2_read_71 : decode cX2_read 71 = .ok (.iadd, 1) := by decide +kernel
theorem dX2_read_72 : decode cX2_read 72 = .ok (.putfield 41, 3) := by decide +kernel
theorem dX2_read_75 : decode cX2_read 75 = .ok (.aload_n 0, 1) := by decide +kernel
theorem dX2_read_76 : decode cX2_read 76 = .ok (.iconst 0, 1) := by decide +kernel
theorem dX2_read_77 : decode cX2_read 77 = .ok (.putfield 19, 3) := by decide +kernel
theorem dX2_read_80 : decode cX2_read 80 = .ok (.iload_n 1, 1) := by decide +kernel
theorem dX2_read_81 : decode cX2_read 81 = .ok (.ifCond .eq 7, 3) := by decide +kernel
theorem dX2_read_84 : decode cX2_read 84 = .ok (.iconst (-1), 1) := by decide +kernel
theorem dX2_read_85 : decode cX2_read 85 = .ok (.goto 7, 3) := by decide +kernel
theorem dX2_read_88 : decode cX2_read 88 = .ok (.aload_n 0, 1) := by decide +kernel
theorem dX2_read_89 : decode cX2_read 89 = .ok (.getfield 44, 3) := by decide +kernel
theorem dX2_read_92 : decode cX2_read 92 = .ok (.ireturn, 1) := by decide +kernel
theorem dX2_readPart_0 : decode cX2_readPart 0 = .ok (.aload_n 0, 1) := by decide +kernel
theorem dX2_readPart_1 : decode cX2_readPart 1 = .ok (.getfield 38, 3) := by decide +kernel
theorem dX2_readPart_4 : decode cX2_readPart 4 = .ok (.sipush 262, 3) := by decide +kernel
theorem dX2_readPart_7 : decode cX2_readPart 7 = .ok (.iload_n 1, 1) := by decide +kernel
theorem dX2_readPart_8 : decode cX2_readPart 8 = .ok (.iadd, 1) := by decide +kernel
theorem dX2_readPart_9 : decode cX2_readPart 9 = .ok (.if_icmp .eq 5, 3) := by decide +kernel
theorem dX2_readPart_12 : decode cX2_readPart 12 = .ok (.iconst 0, 1) := by decide +kernel
theorem dX2_readPart_13 : decode cX2_readPart 13 = .ok (.ireturn, 1) := by decide +kernel
theorem dX2_readPart_14 : decode cX2_readPart 14 = .ok (.aload_n 0, 1) := by decide +kernel
theorem dX2_readPart_15 : decode cX2_readPart 15 = .ok (.invokevirtual 31, 3) := by decide +kernel
theorem dX2_readPart_18 : decode cX2_readPart 18 = .ok (.aload_n 0, 1) := by decide +kernel
theorem dX2_readPart_19 : decode cX2_readPart 19 = .ok (.iconst 0, 1) := by decide +kernel
theorem dX2_readPart_20 : decode cX2_readPart 20 = .ok (.invokevirtual 47, 3) := by decide +kernel
theorem dX2_readPart_23 : decode cX2_readPart 23 = .ok (.ifCond .eq 12, 3) := by decide +kernel
theorem dX2_readPart_26 : decode cX2_readPart 26 = .ok (.aload_n 0, 1) := by decide +kernel
theorem dX2_readPart_27 : decode cX2_readPart 27 = .ok (.getfield 38, 3) := by decide +kernel
theorem dX2_readPart_30 : decode cX2_readPart 30 = .ok (.bipush 59, 2) := by decide +kernel
theorem dX2_readPart_32 : decode cX2_readPart 32 = .ok (.if_icmp .eq 5, 3) := by decide +kernel
theorem dX2_readPart_35 : decode cX2_readPart 35 = .ok (.iconst 0, 1) := by decide +kernel
theorem dX2_readPart_36 : decode cX2_readPart 36 = .ok (.ireturn, 1) := by decide +kernel
theorem dX2_readPart_37 : decode cX2_readPart 37 = .ok (.aload_n 0, 1) := by decide +kernel
theorem dX2_readPart_38 : decode cX2_readPart 38 = .ok (.invokevirtual 31, 3) := by decide +kernel
theorem dX2_readPart_41 : decode cX2_readPart 41 = .ok (.aload_n 0, 1) := by decide +kernel
theorem dX2_readPart_42 : decode cX2_readPart 42 = .ok (.getfield 15, 3) := by decide +kernel
theorem dX2_readPart_45 : decode cX2_readPart 45 = .ok (.iload_n 1, 1) := by decide +kernel
theorem dX2_readPart_46 : decode cX2_readPart 46 = .ok (.invokevirtual 50, 3) := by decide +kernel
theorem dX2_readPart_49 : decode cX2_readPart 49 = .ok (.iconst 1, 1) := by decide +kernel
theorem dX2_readPart_50 : decode cX2_readPart 50 = .ok (.ireturn, 1) := by decide +kernel
theorem dX2_readEither_0 : decode cX2_readEither 0 = .ok (.aload_n 0, 1) := by decide +kernel
theorem dX2_readEither_1 : decode cX2_readEither 1 = .ok (.iload_n 1, 1) := by decide +kernel
theorem dX2_readEither_2 : decode cX2_readEither 2 = .ok (.invokevirtual 54, 3) := by decide +kernel
theorem dX2_readEither_5 : decode cX2_readEither 5 = .ok (.istore_n 2, 1) := by decide +kernel
theorem dX2_readEither_6 : decode cX2_readEither 6 = .ok (.iconst 0, 1) := by decide +kernel
theorem dX2_readEither_7 : decode cX2_readEither 7 = .ok (.istore_n 3, 1) := by decide +kernel
theorem dX2_readEither_8 : decode cX2_readEither 8 = .ok (.iload_n 3, 1) := by decide +kernel
theorem dX2_readEither_9 : decode cX2_readEither 9 = .ok (.sipush 160, 3) := by decide +kernel
theorem dX2_readEither_12 : decode cX2_readEither 12 = .ok (.if_icmp .ge 43, 3) := by decide +kernel
theorem dX2_readEither_15 : decode cX2_readEither 15 = .ok (.iload_n 2, 1) := by decide +kernel
theorem dX2_readEither_16 : decode cX2_readEither 16 = .ok (.ifCond .eq 39, 3) := by decide +kernel
theorem dX2_readEither_19 : decode cX2_readEither 19 = .ok (.aload_n 0, 1) := by decide +kernel
theorem dX2_readEither_20 : decode cX2_readEither 20 = .ok (.getfield 38, 3) := by decide +kernel
theorem dX2_readEither_23 : decode cX2_readEither 23 = .ok (.sipush 265, 3) := by decide +kernel
theorem dX2_readEither_26 : decode cX2_readEither 26 = .ok (.if_icmp .ne 29, 3) := by decide +kernel
theorem dX2_readEither_29 : decode cX2_readEither 29 = .ok (.aload_n 0, 1) := by decide +kernel
theorem dX2_readEither_30 : decode cX2_readEither 30 = .ok (.invokevirtual 31, 3) := by decide +kernel
theorem dX2_readEither_33 : decode cX2_readEither 33 = .ok (.aload_n 0, 1) := by decide +kernel
theorem dX2_readEither_34 : decode cX2_readEither 34 = .ok (.iload_n 1, 1) := by decide +kernel
theorem dX2_readEither_35 : decode cX2_readEither 35 = .ok (.invokevirtual 54, 3) := by decide +kernel
theorem dX2_readEither_38 : decode cX2_readEither 38 = .ok (.istore_n 2, 1) := by decide +kernel
theorem dX2_readEither_39 : decode cX2_readEither 39 = .ok (.aload_n 0, 1) := by decide +kernel
theorem dX2_readEither_40 : decode cX2_readEither 40 = .ok (.getfield 15, 3) := by decide +kernel
theorem dX2_readEither_43 : decode cX2_readEither 43 = .ok (.sipush 20265, 3) := by decide +kernel
theorem dX2_readEither_46 : decode cX2_readEither 46 = .ok (.invokevirtual 57, 3) := by decide +kernel
theorem dX2_readEither_49 : decode cX2_readEither 49 = .ok (.iinc 3 1, 3) := by decide +kernel
theorem dX2_readEither_52 : decode cX2_readEither 52 = .ok (.goto (-44), 3) := by decide +kernel
theorem dX2_readEither_55 : decode cX2_readEither 55 = .ok (.iload_n 2, 1) := by decide +kernel
theorem dX2_readEither_56 : decode cX2_readEither 56 = .ok (.ireturn, 1) := by decide +kernel
theorem dX2_readBoth_0 : decode cX2_readBoth 0 = .ok (.aload_n 0, 1) := by decide +kernel
theorem dX2_readBoth_1 : decode cX2_readBoth 1 = .ok (.iload_n 1, 1) := by decide +kernel
theorem dX2_readBoth_2 : decode cX2_readBoth 2 = .ok (.invokevirtual 60, 3) := by decide +kernel
theorem dX2_readBoth_5 : decode cX2_readBoth 5 = .ok (.istore_n 2, 1) := by decide +kernel
theorem dX2_readBoth_6 : decode cX2_readBoth 6 = .ok (.iconst 0, 1) := by decide +kernel
theorem dX2_readBoth_7 : decode cX2_readBoth 7 = .ok (.istore_n 3, 1) := by decide +kernel
theorem dX2_readBoth_8 : decode cX2_readBoth 8 = .ok (.iload_n 3, 1) := by decide +kernel
theorem dX2_readBoth_9 : decode cX2_readBoth 9 = .ok (.sipush 160, 3) := by decide +kernel
theorem dX2_readBoth_12 : decode cX2_readBoth 12 = .ok (.if_icmp .ge 43, 3) := by decide +kernel
theorem dX2_readBoth_15 : decode cX2_readBoth 15 = .ok (.iload_n 2, 1) := by decide +kernel
theorem dX2_readBoth_16 : decode cX2_readBoth 16 = .ok (.ifCond .eq 39, 3) := by decide +kernel
theorem dX2_readBoth_19 : decode cX2_readBoth 19 = .ok (.aload_n 0, 1) := by decide +kernel
theorem dX2_readBoth_20 : decode cX2_readBoth 20 = .ok (.getfield 38, 3) := by decide +kernel
theorem dX2_readBoth_23 : decode cX2_readBoth 23 = .ok (.sipush 266, 3) := by decide +kernel
theorem dX2_readBoth_26 : decode cX2_readBoth 26 = .ok (.if_icmp .ne 29, 3) := by decide +kernel
theorem dX2_readBoth_29 : decode cX2_readBoth 29 = .ok (.aload_n 0, 1) := by decide +kernel
theorem dX2_readBoth_30 : decode cX2_readBoth 30 = .ok (.invokevirtual 31, 3) := by decide +kernel
theorem dX2_readBoth_33 : decode cX2_readBoth 33 = .ok (.aload_n 0, 1) := by decide +kernel
theorem dX2_readBoth_34 : decode cX2_readBoth 34 = .ok (.iload_n 1, 1) := by decide +kernel
theorem dX2_readBoth_35 : decode cX2_readBoth 35 = .ok (.invokevirtual 60, 3) := by decide +kernel
theorem dX2_readBoth_38 : decode cX2_readBoth 38 = .ok (.istore_n 2, 1) := by decide +kernel
theorem dX2_readBoth_39 : decode cX2_readBoth 39 = .ok (.aload_n 0, 1) := by decide +kernel
theorem dX2_readBoth_40 : decode cX2_readBoth 40 = .ok (.getfield 15, 3) := by decide +kernel
theorem dX2_readBoth_43 : decode cX2_readBoth 43 = .ok (.sipush 20266, 3) := by decide +kernel
theorem dX2_readBoth_46 : decode cX2_readBoth 46 = .ok (.invokevirtual 57, 3) := by decide +kernel
theorem dX2_readBoth_49 : decode cX2_readBoth 49 = .ok (.iinc 3 1, 3) := by decide +kernel
theorem dX2_readBoth_52 : decode cX2_readBoth 52 = .ok (.goto (-44), 3) := by decide +kernel
theorem dX2_readBoth_55 : decode cX2_readBoth 55 = .ok (.iload_n 2, 1) := by decide +kernel
theorem dX2_readBoth_56 : decode cX2_readBoth 56 = .ok (.ireturn, 1) := by decide +kernel
theorem dX2_readDenial_0 : decode cX2_readDenial 0 = .ok (.aload_n 0, 1) := by decide +kernel
theorem dX2_readDenial_1 : decode cX2_readDenial 1 = .ok (.getfield 38, 3) := by decide +kernel
theorem dX2_readDenial_4 : decode cX2_readDenial 4 = .ok (.sipush 267, 3) := by decide +kernel
theorem dX2_readDenial_7 : decode cX2_readDenial 7 = .ok (.if_icmp .eq 9, 3) := by decide +kernel
theorem dX2_readDenial_10 : decode cX2_readDenial 10 = .ok (.aload_n 0, 1) := by decide +kernel
theorem dX2_readDenial_11 : decode cX2_readDenial 11 = .ok (.iload_n 1, 1) := by decide +kernel
theorem dX2_readDenial_12 : decode cX2_readDenial 12 = .ok (.invokevirtual 63, 3) := by decide +kernel
theorem dX2_readDenial_15 : decode cX2_readDenial 15 = .ok (.ireturn, 1) := by decide +kernel
theorem dX2_readDenial_16 : decode cX2_readDenial 16 = .ok (.iload_n 1, 1) := by decide +kernel
theorem dX2_readDenial_17 : decode cX2_readDenial 17 = .ok (.iconst 5, 1) := by decide +kernel
theorem dX2_readDenial_18 : decode cX2_readDenial 18 = .ok (.if_icmp .lt 5, 3) := by decide +kernel
theorem dX2_readDenial_21 : decode cX2_readDenial 21 = .ok (.iconst 0, 1) := by decide +kernel
theorem dX2_readDenial_22 : decode cX2_readDenial 22 = .ok (.ireturn, 1) := by decide +kernel
theorem dX2_readDenial_23 : decode cX2_readDenial 23 = .ok (.aload_n 0, 1) := by decide +kernel
theorem dX2_readDenial_24 : decode cX2_readDenial 24 = .ok (.invokevirtual 31, 3) := by decide +kernel
theorem dX2_readDenial_27 : decode cX2_readDenial 27 = .ok (.aload_n 0, 1) := by decide +kernel
theorem dX2_readDenial_28 : decode cX2_readDenial 28 = .ok (.iload_n 1, 1) := by decide +kernel
theorem dX2_readDenial_29 : decode cX2_readDenial 29 = .ok (.iconst 1, 1) := by decide +kernel
theorem dX2_readDenial_30 : decode cX2_readDenial 30 = .ok (.iadd, 1) := by decide +kernel
theorem dX2_readDenial_31 : decode cX2_readDenial 31 = .ok (.invokevirtual 60, 3) := by decide +kernel
theorem dX2_readDenial_34 : decode cX2_readDenial 34 = .ok (.istore_n 2, 1) := by decide +kernel
theorem dX2_readDenial_35 : decode cX2_readDenial 35 = .ok (.aload_n 0, 1) := by decide +kernel
theorem dX2_readDenial_36 : decode cX2_readDenial 36 = .ok (.getfield 15, 3) := by decide +kernel
theorem dX2_readDenial_39 : decode cX2_readDenial 39 = .ok (.sipush 20267, 3) := by decide +kernel
theorem dX2_readDenial_42 : decode cX2_readDenial 42 = .ok (.invokevirtual 57, 3) := by decide +kernel
theorem dX2_readDenial_45 : decode cX2_readDenial 45 = .ok (.iload_n 2, 1) := by decide +kernel
theorem dX2_readDenial_46 : decode cX2_readDenial 46 = .ok (.ireturn, 1) := by decide +kernel
theorem dX2_readComparison_0 : decode cX2_readComparison 0 = .ok (.aload_n 0, 1) := by decide +kernel
theorem dX2_readComparison_1 : decode cX2_readComparison 1 = .ok (.iload_n 1, 1) := by decide +kernel
theorem dX2_readComparison_2 : decode cX2_readComparison 2 = .ok (.invokevirtual 66, 3) := by decide +kernel
theorem dX2_readComparison_5 : decode cX2_readComparison 5 = .ok (.istore_n 2, 1) := by decide +kernel
theorem dX2_readComparison_6 : decode cX2_readComparison 6 = .ok (.iload_n 2, 1) := by decide +kernel
theorem dX2_readComparison_7 : decode cX2_readComparison 7 = .ok (.ifCond .eq 48, 3) := by decide +kernel
theorem dX2_readComparison_10 : decode cX2_readComparison 10 = .ok (.aload_n 0, 1) := by decide +kernel
theorem dX2_readComparison_11 : decode cX2_readComparison 11 = .ok (.getfield 38, 3) := by decide +kernel
theorem dX2_readComparison_14 : decode cX2_readComparison 14 = .ok (.bipush 60, 2) := by decide +kernel
theorem dX2_readComparison_16 : decode cX2_readComparison 16 = .ok (.if_icmp .eq 12, 3) := by decide +kernel
theorem dX2_readComparison_19 : decode cX2_readComparison 19 = .ok (.aload_n 0, 1) := by decide +kernel
theorem dX2_readComparison_20 : decode cX2_readComparison 20 = .ok (.getfield 38, 3) := by decide +kernel
theorem dX2_readComparison_23 : decode cX2_readComparison 23 = .ok (.bipush 61, 2) := by decide +kernel
theorem dX2_readComparison_25 : decode cX2_readComparison 25 = .ok (.if_icmp .ne 30, 3) := by decide +kernel
theorem dX2_readComparison_28 : decode cX2_readComparison 28 = .ok (.aload_n 0, 1) := by decide +kernel
theorem dX2_readComparison_29 : decode cX2_readComparison 29 = .ok (.getfield 38, 3) := by decide +kernel
theorem dX2_readComparison_32 : decode cX2_readComparison 32 = .ok (.istore_n 3, 1) := by decide +kernel
theorem dX2_readComparison_33 : decode cX2_readComparison 33 = .ok (.aload_n 0, 1) := by decide +kernel
theorem dX2_readComparison_34 : decode cX2_readComparison 34 = .ok (.invokevirtual 31, 3) := by decide +kernel
theorem dX2_readComparison_37 : decode cX2_readComparison 37 = .ok (.aload_n 0, 1) := by decide +kernel
theorem dX2_readComparison_38 : decode cX2_readComparison 38 = .ok (.iload_n 1, 1) := by decide +kernel
theorem dX2_readComparison_39 : decode cX2_readComparison 39 = .ok (.invokevirtual 66, 3) := by decide +kernel
theorem dX2_readComparison_42 : decode cX2_readComparison 42 = .ok (.istore_n 2, 1) := by decide +kernel
theorem dX2_readComparison_43 : decode cX2_readComparison 43 = .ok (.aload_n 0, 1) := by decide +kernel
theorem dX2_readComparison_44 : decode cX2_readComparison 44 = .ok (.getfield 15, 3) := by decide +kernel
theorem dX2_readComparison_47 : decode cX2_readComparison 47 = .ok (.sipush 20000, 3) := by decide +kernel
theorem dX2_readComparison_50 : decode cX2_readComparison 50 = .ok (.iload_n 3, 1) := by decide +kernel
theorem dX2_readComparison_51 : decode cX2_readComparison 51 = .ok (.iadd, 1) := by decide +kernel
theorem dX2_readComparison_52 : decode cX2_readComparison 52 = .ok (.invokevirtual 57, 3) := by decide +kernel
theorem dX2_readComparison_55 : decode cX2_readComparison 55 = .ok (.iload_n 2, 1) := by decide +kernel
theorem dX2_readComparison_56 : decode cX2_readComparison 56 = .ok (.ireturn, 1) := by decide +kernel
theorem dX2_readSum_0 : decode cX2_readSum 0 = .ok (.aload_n 0, 1) := by decide +kernel
theorem dX2_readSum_1 : decode cX2_readSum 1 = .ok (.iload_n 1, 1) := by decide +kernel
theorem dX2_readSum_2 : decode cX2_readSum 2 = .ok (.invokevirtual 69, 3) := by decide +kernel
theorem dX2_readSum_5 : decode cX2_readSum 5 = .ok (.istore_n 2, 1) := by decide +kernel
theorem dX2_readSum_6 : decode cX2_readSum 6 = .ok (.iconst 0, 1) := by decide +kernel
theorem dX2_readSum_7 : decode cX2_readSum 7 = .ok (.istore_n 3, 1) := by decide +kernel
theorem dX2_readSum_8 : decode cX2_readSum 8 = .ok (.iload_n 3, 1) := by decide +kernel
theorem dX2_readSum_9 : decode cX2_readSum 9 = .ok (.sipush 160, 3) := by decide +kernel
theorem dX2_readSum_12 : decode cX2_readSum 12 = .ok (.if_icmp .ge 60, 3) := by decide +kernel
theorem dX2_readSum_15 : decode cX2_readSum 15 = .ok (.iload_n 2, 1) := by decide +kernel
theorem dX2_readSum_16 : decode cX2_readSum 16 = .ok (.ifCond .eq 56, 3) := by decide +kernel
theorem dX2_readSum_19 : decode cX2_readSum 19 = .ok (.aload_n 0, 1) := by decide +kernel
theorem dX2_readSum_20 : decode cX2_readSum 20 = .ok (.getfield 38, 3) := by decide +kernel
theorem dX2_readSum_23 : decode cX2_readSum 23 = .ok (.bipush 43, 2) := by decide +kernel
theorem dX2_readSum_25 : decode cX2_readSum 25 = .ok (.if_icmp .eq 12, 3) := by decide +kernel
theorem dX2_readSum_28 : decode cX2_readSum 28 = .ok (.aload_n 0, 1) := by decide +kernel
theorem dX2_readSum_29 : decode cX2_readSum 29 = .ok (.getfield 38, 3) := by decide +kernel
theorem dX2_readSum_32 : decode cX2_readSum 32 = .ok (.bipush 45, 2) := by decide +kernel
theorem dX2_readSum_34 : decode cX2_readSum 34 = .ok (.if_icmp .ne 38, 3) := by decide +kernel
theorem dX2_readSum_37 : decode cX2_readSum 37 = .ok (.aload_n 0, 1) := by decide +kernel
theorem dX2_readSum_38 : decode cX2_readSum 38 = .ok (.getfield 38, 3) := by decide +kernel
theorem dX2_readSum_41 : decode cX2_readSum 41 = .ok (.istore 4, 2) := by decide +kernel
theorem dX2_readSum_43 : decode cX2_readSum 43 = .ok (.aload_n 0, 1) := by decide +kernel
theorem dX2_readSum_44 : decode cX2_readSum 44 = .ok (.invokevirtual 31, 3) := by decide +kernel
theorem dX2_readSum_47 : decode cX2_readSum 47 = .ok (.aload_n 0, 1) := by decide +kernel
theorem dX2_readSum_48 : decode cX2_readSum 48 = .ok (.iload_n 1, 1) := by decide +kernel
theorem dX2_readSum_49 : decode cX2_readSum 49 = .ok (.invokevirtual 69, 3) := by decide +kernel
theorem dX2_readSum_52 : decode cX2_readSum 52 = .ok (.istore_n 2, 1) := by decide +kernel
theorem dX2_readSum_53 : decode cX2_readSum 53 = .ok (.aload_n 0, 1) := by decide +kernel
theorem dX2_readSum_54 : decode cX2_readSum 54 = .ok (.getfield 15, 3) := by decide +kernel
theorem dX2_readSum_57 : decode cX2_readSum 57 = .ok (.sipush 20000, 3) := by decide +kernel
theorem dX2_readSum_60 : decode cX2_readSum 60 = .ok (.iload 4, 2) := by decide +kernel
theorem dX2_readSum_62 : decode cX2_readSum 62 = .ok (.iadd, 1) := by decide +kernel
theorem dX2_readSum_63 : decode cX2_readSum 63 = .ok (.invokevirtual 57, 3) := by decide +kernel
theorem dX2_readSum_66 : decode cX2_readSum 66 = .ok (.iinc 3 1, 3) := by decide +kernel
theorem dX2_readSum_69 : decode cX2_readSum 69 = .ok (.goto (-61), 3) := by decide +kernel
theorem dX2_readSum_72 : decode cX2_readSum 72 = .ok (.iload_n 2, 1) := by decide +kernel
theorem dX2_readSum_73 : decode cX2_readSum 73 = .ok (.ireturn, 1) := by decide +kernel
theorem dX2_readTerm_0 : decode cX2_readTerm 0 = .ok (.aload_n 0, 1) := by decide +kernel
theorem dX2_readTerm_1 : decode cX2_readTerm 1 = .ok (.iload_n 1, 1) := by decide +kernel
theorem dX2_readTerm_2 : decode cX2_readTerm 2 = .ok (.invokevirtual 72, 3) := by decide +kernel
theorem dX2_readTerm_5 : decode cX2_readTerm 5 = .ok (.istore_n 2, 1) := by decide +kernel
theorem dX2_readTerm_6 : decode cX2_readTerm 6 = .ok (.iconst 0, 1) := by decide +kernel
theorem dX2_readTerm_7 : decode cX2_readTerm 7 = .ok (.istore_n 3, 1) := by decide +kernel
theorem dX2_readTerm_8 : decode cX2_readTerm 8 = .ok (.iload_n 3, 1) := by decide +kernel
theorem dX2_readTerm_9 : decode cX2_readTerm 9 = .ok (.sipush 160, 3) := by decide +kernel
theorem dX2_readTerm_12 : decode cX2_readTerm 12 = .ok (.if_icmp .ge 42, 3) := by decide +kernel
theorem dX2_readTerm_15 : decode cX2_readTerm 15 = .ok (.iload_n 2, 1) := by decide +kernel
theorem dX2_readTerm_16 : decode cX2_readTerm 16 = .ok (.ifCond .eq 38, 3) := by decide +kernel
theorem dX2_readTerm_19 : decode cX2_readTerm 19 = .ok (.aload_n 0, 1) := by decide +kernel
theorem dX2_readTerm_20 : decode cX2_readTerm 20 = .ok (.getfield 38, 3) := by decide +kernel
theorem dX2_readTerm_23 : decode cX2_readTerm 23 = .ok (.bipush 42, 2) := by decide +kernel
theorem dX2_readTerm_25 : decode cX2_readTerm 25 = .ok (.if_icmp .ne 29, 3) := by decide +kernel
theorem dX2_readTerm_28 : decode cX2_readTerm 28 = .ok (.aload_n 0, 1) := by decide +kernel
theorem dX2_readTerm_29 : decode cX2_readTerm 29 = .ok (.invokevirtual 31, 3) := by decide +kernel
theorem dX2_readTerm_32 : decode cX2_readTerm 32 = .ok (.aload_n 0, 1) := by decide +kernel
theorem dX2_readTerm_33 : decode cX2_readTerm 33 = .ok (.iload_n 1, 1) := by decide +kernel
theorem dX2_readTerm_34 : decode cX2_readTerm 34 = .ok (.invokevirtual 72, 3) := by decide +kernel
theorem dX2_readTerm_37 : decode cX2_readTerm 37 = .ok (.istore_n 2, 1) := by decide +kernel
theorem dX2_readTerm_38 : decode cX2_readTerm 38 = .ok (.aload_n 0, 1) := by decide +kernel
theorem dX2_readTerm_39 : decode cX2_readTerm 39 = .ok (.getfield 15, 3) := by decide +kernel
theorem dX2_readTerm_42 : decode cX2_readTerm 42 = .ok (.sipush 20042, 3) := by decide +kernel
theorem dX2_readTerm_45 : decode cX2_readTerm 45 = .ok (.invokevirtual 57, 3) := by decide +kernel
theorem dX2_readTerm_48 : decode cX2_readTerm 48 = .ok (.iinc 3 1, 3) := by decide +kernel
theorem dX2_readTerm_51 : decode cX2_readTerm 51 = .ok (.goto (-43), 3) := by decide +kernel
theorem dX2_readTerm_54 : decode cX2_readTerm 54 = .ok (.iload_n 2, 1) := by decide +kernel
theorem dX2_readTerm_55 : decode cX2_readTerm 55 = .ok (.ireturn, 1) := by decide +kernel
theorem dX2_readOne_0 : decode cX2_readOne 0 = .ok (.aload_n 0, 1) := by decide +kernel
theorem dX2_readOne_1 : decode cX2_readOne 1 = .ok (.getfield 38, 3) := by decide +kernel
theorem dX2_readOne_4 : decode cX2_readOne 4 = .ok (.iconst 2, 1) := by decide +kernel
theorem dX2_readOne_5 : decode cX2_readOne 5 = .ok (.if_icmp .ne 20, 3) := by decide +kernel
theorem dX2_readOne_8 : decode cX2_readOne 8 = .ok (.aload_n 0, 1) := by decide +kernel
theorem dX2_readOne_9 : decode cX2_readOne 9 = .ok (.getfield 15, 3) := by decide +kernel
theorem dX2_readOne_12 : decode cX2_readOne 12 = .ok (.aload_n 0, 1) := by decide +kernel
theorem dX2_readOne_13 : decode cX2_readOne 13 = .ok (.getfield 75, 3) := by decide +kernel
theorem dX2_readOne_16 : decode cX2_readOne 16 = .ok (.invokevirtual 57, 3) := by decide +kernel
theorem dX2_readOne_19 : decode cX2_readOne 19 = .ok (.aload_n 0, 1) := by decide +kernel
theorem dX2_readOne_20 : decode cX2_readOne 20 = .ok (.invokevirtual 31, 3) := by decide +kernel
theorem dX2_readOne_23 : decode cX2_readOne 23 = .ok (.iconst 1, 1) := by decide +kernel
theorem dX2_readOne_24 : decode cX2_readOne 24 = .ok (.ireturn, 1) := by decide +kernel
theorem dX2_readOne_25 : decode cX2_readOne 25 = .ok (.aload_n 0, 1) := by decide +kernel
theorem dX2_readOne_26 : decode cX2_readOne 26 = .ok (.getfield 38, 3) := by decide +kernel
theorem dX2_readOne_29 : decode cX2_readOne 29 = .ok (.sipush 256, 3) := by decide +kernel
theorem dX2_readOne_32 : decode cX2_readOne 32 = .ok (.if_icmp .lt 38, 3) := by decide +kernel
theorem dX2_readOne_35 : decode cX2_readOne 35 = .ok (.aload_n 0, 1) := by decide +kernel
theorem dX2_readOne_36 : decode cX2_readOne 36 = .ok (.getfield 38, 3) := by decide +kernel
theorem dX2_readOne_39 : decode cX2_readOne 39 = .ok (.sipush 262, 3) := by decide +kernel
theorem dX2_readOne_42 : decode cX2_readOne 42 = .ok (.if_icmp .ge 28, 3) := by decide +kernel
theorem dX2_readOne_45 : decode cX2_readOne 45 = .ok (.aload_n 0, 1) := by decide +kernel
theorem dX2_readOne_46 : decode cX2_readOne 46 = .ok (.getfield 15, 3) := by decide +kernel
theorem dX2_readOne_49 : decode cX2_readOne 49 = .ok (.sipush 10000, 3) := by decide +kernel
theorem dX2_readOne_52 : decode cX2_readOne 52 = .ok (.aload_n 0, 1) := by decide +kernel
theorem dX2_readOne_53 : decode cX2_readOne 53 = .ok (.getfield 38, 3) := by decide +kernel
theorem dX2_readOne_56 : decode cX2_readOne 56 = .ok (.iadd, 1) := by decide +kernel
theorem dX2_readOne_57 : decode cX2_readOne 57 = .ok (.sipush 256, 3) := by decide +kernel
theorem dX2_readOne_60 : decode cX2_readOne 60 = .ok (.isub, 1) := by decide +kernel
theorem dX2_readOne_61 : decode cX2_readOne 61 = .ok (.invokevirtual 57, 3) := by decide +kernel
theorem dX2_readOne_64 : decode cX2_readOne 64 = .ok (.aload_n 0, 1) := by decide +kernel
theorem dX2_readOne_65 : decode cX2_readOne 65 = .ok (.invokevirtual 31, 3) := by decide +kernel
theorem dX2_readOne_68 : decode cX2_readOne 68 = .ok (.iconst 1, 1) := by decide +kernel
theorem dX2_readOne_69 : decode cX2_readOne 69 = .ok (.ireturn, 1) := by decide +kernel
theorem dX2_readOne_70 : decode cX2_readOne 70 = .ok (.iload_n 1, 1) := by decide +kernel
theorem dX2_readOne_71 : decode cX2_readOne 71 = .ok (.iconst 5, 1) := by decide +kernel
theorem dX2_readOne_72 : decode cX2_readOne 72 = .ok (.if_icmp .ge 21, 3) := by decide +kernel
theorem dX2_readOne_75 : decode cX2_readOne 75 = .ok (.aload_n 0, 1) := by decide +kernel
theorem dX2_readOne_76 : decode cX2_readOne 76 = .ok (.getfield 38, 3) := by decide +kernel
theorem dX2_readOne_79 : decode cX2_readOne 79 = .ok (.bipush 45, 2) := by decide +kernel
theorem dX2_readOne_81 : decode cX2_readOne 81 = .ok (.if_icmp .eq 14, 3) := by decide +kernel
theorem dX2_readOne_84 : decode cX2_readOne 84 = .ok (.aload_n 0, 1) := by decide +kernel
theorem dX2_readOne_85 : decode cX2_readOne 85 = .ok (.getfield 38, 3) := by decide +kernel
theorem dX2_readOne_88 : decode cX2_readOne 88 = .ok (.bipush 40, 2) := by decide +kernel
theorem dX2_readOne_90 : decode cX2_readOne 90 = .ok (.if_icmp .eq 5, 3) := by decide +kernel
theorem dX2_readOne_93 : decode cX2_readOne 93 = .ok (.iconst 0, 1) := by decide +kernel
theorem dX2_readOne_94 : decode cX2_readOne 94 = .ok (.ireturn, 1) := by decide +kernel
theorem dX2_readOne_95 : decode cX2_readOne 95 = .ok (.aload_n 0, 1) := by decide +kernel
theorem dX2_readOne_96 : decode cX2_readOne 96 = .ok (.getfield 38, 3) := by decide +kernel
theorem dX2_readOne_99 : decode cX2_readOne 99 = .ok (.bipush 45, 2) := by decide +kernel
theorem dX2_readOne_101 : decode cX2_readOne 101 = .ok (.if_icmp .ne 13, 3) := by decide +kernel
theorem dX2_readOne_104 : decode cX2_readOne 104 = .ok (.aload_n 0, 1) := by decide +kernel
theorem dX2_readOne_105 : decode cX2_readOne 105 = .ok (.iload_n 1, 1) := by decide +kernel
theorem dX2_readOne_106 : decode cX2_readOne 106 = .ok (.iconst 1, 1) := by decide +kernel
theorem dX2_readOne_107 : decode cX2_readOne 107 = .ok (.iadd, 1) := by decide +kernel
theorem dX2_readOne_108 : decode cX2_readOne 108 = .ok (.invokevirtual 78, 3) := by decide +kernel
theorem dX2_readOne_111 : decode cX2_readOne 111 = .ok (.goto 10, 3) := by decide +kernel
theorem dX2_readOne_114 : decode cX2_readOne 114 = .ok (.aload_n 0, 1) := by decide +kernel
theorem dX2_readOne_115 : decode cX2_readOne 115 = .ok (.iload_n 1, 1) := by decide +kernel
theorem dX2_readOne_116 : decode cX2_readOne 116 = .ok (.iconst 1, 1) := by decide +kernel
theorem dX2_readOne_117 : decode cX2_readOne 117 = .ok (.iadd, 1) := by decide +kernel
theorem dX2_readOne_118 : decode cX2_readOne 118 = .ok (.invokevirtual 81, 3) := by decide +kernel
theorem dX2_readOne_121 : decode cX2_readOne 121 = .ok (.ireturn, 1) := by decide +kernel
theorem dX2_readNegation_0 : decode cX2_readNegation 0 = .ok (.aload_n 0, 1) := by decide +kernel
theorem dX2_readNegation_1 : decode cX2_readNegation 1 = .ok (.invokevirtual 31, 3) := by decide +kernel
theorem dX2_readNegation_4 : decode cX2_readNegation 4 = .ok (.aload_n 0, 1) := by decide +kernel
theorem dX2_readNegation_5 : decode cX2_readNegation 5 = .ok (.iload_n 1, 1) := by decide +kernel
theorem dX2_readNegation_6 : decode cX2_readNegation 6 = .ok (.invokevirtual 72, 3) := by decide +kernel
theorem dX2_readNegation_9 : decode cX2_readNegation 9 = .ok (.istore_n 2, 1) := by decide +kernel
theorem dX2_readNegation_10 : decode cX2_readNegation 10 = .ok (.aload_n 0, 1) := by decide +kernel
theorem dX2_readNegation_11 : decode cX2_readNegation 11 = .ok (.getfield 15, 3) := by decide +kernel
theorem dX2_readNegation_14 : decode cX2_readNegation 14 = .ok (.sipush 20003, 3) := by decide +kernel
theorem dX2_readNegation_17 : decode cX2_readNegation 17 = .ok (.invokevirtual 57, 3) := by decide +kernel
theorem dX2_readNegation_20 : decode cX2_readNegation 20 = .ok (.iload_n 2, 1) := by decide +kernel
theorem dX2_readNegation_21 : decode cX2_readNegation 21 = .ok (.ireturn, 1) := by decide +kernel
theorem dX2_readBrackets_0 : decode cX2_readBrackets 0 = .ok (.aload_n 0, 1) := by decide +kernel
theorem dX2_readBrackets_1 : decode cX2_readBrackets 1 = .ok (.invokevirtual 31, 3) := by decide +kernel
theorem dX2_readBrackets_4 : decode cX2_readBrackets 4 = .ok (.aload_n 0, 1) := by decide +kernel
theorem dX2_readBrackets_5 : decode cX2_readBrackets 5 = .ok (.iload_n 1, 1) := by decide +kernel
theorem dX2_readBrackets_6 : decode cX2_readBrackets 6 = .ok (.invokevirtual 47, 3) := by decide +kernel
theorem dX2_readBrackets_9 : decode cX2_readBrackets 9 = .ok (.ifCond .eq 12, 3) := by decide +kernel
theorem dX2_readBrackets_12 : decode cX2_readBrackets 12 = .ok (.aload_n 0, 1) := by decide +kernel
theorem dX2_readBrackets_13 : decode cX2_readBrackets 13 = .ok (.getfield 38, 3) := by decide +kernel
theorem dX2_readBrackets_16 : decode cX2_readBrackets 16 = .ok (.bipush 41, 2) := by decide +kernel
theorem dX2_readBrackets_18 : decode cX2_readBrackets 18 = .ok (.if_icmp .eq 5, 3) := by decide +kernel
theorem dX2_readBrackets_21 : decode cX2_readBrackets 21 = .ok (.iconst 0, 1) := by decide +kernel
theorem dX2_readBrackets_22 : decode cX2_readBrackets 22 = .ok (.ireturn, 1) := by decide +kernel
theorem dX2_readBrackets_23 : decode cX2_readBrackets 23 = .ok (.aload_n 0, 1) := by decide +kernel
theorem dX2_readBrackets_24 : decode cX2_readBrackets 24 = .ok (.invokevirtual 31, 3) := by decide +kernel
theorem dX2_readBrackets_27 : decode cX2_readBrackets 27 = .ok (.iconst 1, 1) := by decide +kernel
theorem dX2_readBrackets_28 : decode cX2_readBrackets 28 = .ok (.ireturn, 1) := by decide +kernel
theorem dX2_advance_0 : decode cX2_advance 0 = .ok (.iconst 0, 1) := by decide +kernel
theorem dX2_advance_1 : decode cX2_advance 1 = .ok (.istore_n 1, 1) := by decide +kernel
theorem dX2_advance_2 : decode cX2_advance 2 = .ok (.iload_n 1, 1) := by decide +kernel
theorem dX2_advance_3 : decode cX2_advance 3 = .ok (.sipush 160, 3) := by decide +kernel
theorem dX2_advance_6 : decode cX2_advance 6 = .ok (.if_icmp .ge 45, 3) := by decide +kernel
theorem dX2_advance_9 : decode cX2_advance 9 = .ok (.aload_n 0, 1) := by decide +kernel
theorem dX2_advance_10 : decode cX2_advance 10 = .ok (.aload_n 0, 1) := by decide +kernel
theorem dX2_advance_11 : decode cX2_advance 11 = .ok (.getfield 23, 3) := by decide +kernel
theorem dX2_advance_14 : decode cX2_advance 14 = .ok (.invokevirtual 84, 3) := by decide +kernel
theorem dX2_advance_17 : decode cX2_advance 17 = .ok (.bipush 32, 2) := by decide +kernel
theorem dX2_advance_19 : decode cX2_advance 19 = .ok (.if_icmp .eq 16, 3) := by decide +kernel
theorem dX2_advance_22 : decode cX2_advance 22 = .ok (.aload_n 0, 1) := by decide +kernel
theorem dX2_advance_23 : decode cX2_advance 23 = .ok (.aload_n 0, 1) := by decide +kernel
theorem dX2_advance_24 : decode cX2_advance 24 = .ok (.getfield 23, 3) := by decide +kernel
theorem dX2_advance_27 : decode cX2_advance 27 = .ok (.invokevirtual 84, 3) := by decide +kernel
theorem dX2_advance_30 : decode cX2_advance 30 = .ok (.bipush 10, 2) := by decide +kernel
theorem dX2_advance_32 : decode cX2_advance 32 = .ok (.if_icmp .ne 19, 3) := by decide +kernel
theorem dX2_advance_35 : decode cX2_advance 35 = .ok (.aload_n 0, 1) := by decide +kernel
theorem dX2_advance_36 : decode cX2_advance 36 = .ok (.dup, 1) := by decide +kernel
theorem dX2_advance_37 : decode cX2_advance 37 = .ok (.getfield 23, 3) := by decide +kernel
theorem dX2_advance_40 : decode cX2_advance 40 = .ok (.iconst 1, 1) := by decide +kernel
theorem dX2_advance_41 : decode cX2_advance 41 = .ok (.iadd, 1) := by decide +kernel
theorem dX2_advance_42 : decode cX2_advance 42 = .ok (.putfield 23, 3) := by decide +kernel
theorem dX2_advance_45 : decode cX2_advance 45 = .ok (.iinc 1 1, 3) := by decide +kernel
theorem dX2_advance_48 : decode cX2_advance 48 = .ok (.goto (-46), 3) := by decide +kernel
theorem dX2_advance_51 : decode cX2_advance 51 = .ok (.aload_n 0, 1) := by decide +kernel
theorem dX2_advance_52 : decode cX2_advance 52 = .ok (.aload_n 0, 1) := by decide +kernel
theorem dX2_advance_53 : decode cX2_advance 53 = .ok (.getfield 23, 3) := by decide +kernel
theorem dX2_advance_56 : decode cX2_advance 56 = .ok (.putfield 44, 3) := by decide +kernel
theorem dX2_advance_59 : decode cX2_advance 59 = .ok (.aload_n 0, 1) := by decide +kernel
theorem dX2_advance_60 : decode cX2_advance 60 = .ok (.aload_n 0, 1) := by decide +kernel
theorem dX2_advance_61 : decode cX2_advance 61 = .ok (.getfield 23, 3) := by decide +kernel
theorem dX2_advance_64 : decode cX2_advance 64 = .ok (.invokevirtual 84, 3) := by decide +kernel
theorem dX2_advance_67 : decode cX2_advance 67 = .ok (.istore_n 1, 1) := by decide +kernel
theorem dX2_advance_68 : decode cX2_advance 68 = .ok (.iload_n 1, 1) := by decide +kernel
theorem dX2_advance_69 : decode cX2_advance 69 = .ok (.iconst (-1), 1) := by decide +kernel
theorem dX2_advance_70 : decode cX2_advance 70 = .ok (.if_icmp .ne 11, 3) := by decide +kernel
theorem dX2_advance_73 : decode cX2_advance 73 = .ok (.aload_n 0, 1) := by decide +kernel
theorem dX2_advance_74 : decode cX2_advance 74 = .ok (.iconst 0, 1) := by decide +kernel
theorem dX2_advance_75 : decode cX2_advance 75 = .ok (.putfield 38, 3) := by decide +kernel
theorem dX2_advance_78 : decode cX2_advance 78 = .ok (.goto 57, 3) := by decide +kernel
theorem dX2_advance_81 : decode cX2_advance 81 = .ok (.iload_n 1, 1) := by decide +kernel
theorem dX2_advance_82 : decode cX2_advance 82 = .ok (.invokestatic 88, 3) := by decide +kernel
theorem dX2_advance_85 : decode cX2_advance 85 = .ok (.ifCond .eq 10, 3) := by decide +kernel
theorem dX2_advance_88 : decode cX2_advance 88 = .ok (.aload_n 0, 1) := by decide +kernel
theorem dX2_advance_89 : decode cX2_advance 89 = .ok (.invokevirtual 91, 3) := by decide +kernel
theorem dX2_advance_92 : decode cX2_advance 92 = .ok (.goto 43, 3) := by decide +kernel
theorem dX2_advance_95 : decode cX2_advance 95 = .ok (.iload_n 1, 1) := by decide +kernel
theorem dX2_advance_96 : decode cX2_advance 96 = .ok (.invokestatic 94, 3) := by decide +kernel
theorem dX2_advance_99 : decode cX2_advance 99 = .ok (.ifCond .eq 10, 3) := by decide +kernel
theorem dX2_advance_102 : decode cX2_advance 102 = .ok (.aload_n 0, 1) := by decide +kernel
theorem dX2_advance_103 : decode cX2_advance 103 = .ok (.invokevirtual 97, 3) := by decide +kernel
theorem dX2_advance_106 : decode cX2_advance 106 = .ok (.goto 29, 3) := by decide +kernel
theorem dX2_advance_109 : decode cX2_advance 109 = .ok (.aload_n 0, 1) := by decide +kernel
theorem dX2_advance_110 : decode cX2_advance 110 = .ok (.iload_n 1, 1) := by decide +kernel
theorem dX2_advance_111 : decode cX2_advance 111 = .ok (.invokestatic 100, 3) := by decide +kernel
theorem dX2_advance_114 : decode cX2_advance 114 = .ok (.ifCond .eq 7, 3) := by decide +kernel
theorem dX2_advance_117 : decode cX2_advance 117 = .ok (.iload_n 1, 1) := by decide +kernel
theorem dX2_advance_118 : decode cX2_advance 118 = .ok (.goto 4, 3) := by decide +kernel
theorem dX2_advance_121 : decode cX2_advance 121 = .ok (.iconst 1, 1) := by decide +kernel
theorem dX2_advance_122 : decode cX2_advance 122 = .ok (.putfield 38, 3) := by decide +kernel
theorem dX2_advance_125 : decode cX2_advance 125 = .ok (.aload_n 0, 1) := by decide +kernel
theorem dX2_advance_126 : decode cX2_advance 126 = .ok (.dup, 1) := by decide +kernel
theorem dX2_advance_127 : decode cX2_advance 127 = .ok (.getfield 23, 3) := by decide +kernel
theorem dX2_advance_130 : decode cX2_advance 130 = .ok (.iconst 1, 1) := by decide +kernel
theorem dX2_advance_131 : decode cX2_advance 131 = .ok (.iadd, 1) := by decide +kernel
theorem dX2_advance_132 : decode cX2_advance 132 = .ok (.putfield 23, 3) := by decide +kernel
theorem dX2_advance_135 : decode cX2_advance 135 = .ok (.return_, 1) := by decide +kernel
theorem dX2_letterAt_0 : decode cX2_letterAt 0 = .ok (.iload_n 1, 1) := by decide +kernel
theorem dX2_letterAt_1 : decode cX2_letterAt 1 = .ok (.ifCond .lt 27, 3) := by decide +kernel
theorem dX2_letterAt_4 : decode cX2_letterAt 4 = .ok (.iload_n 1, 1) := by decide +kernel
theorem dX2_letterAt_5 : decode cX2_letterAt 5 = .ok (.aload_n 0, 1) := by decide +kernel
theorem dX2_letterAt_6 : decode cX2_letterAt 6 = .ok (.getfield 19, 3) := by decide +kernel
theorem dX2_letterAt_9 : decode cX2_letterAt 9 = .ok (.if_icmp .ge 19, 3) := by decide +kernel
theorem dX2_letterAt_12 : decode cX2_letterAt 12 = .ok (.iload_n 1, 1) := by decide +kernel
theorem dX2_letterAt_13 : decode cX2_letterAt 13 = .ok (.sipush 160, 3) := by decide +kernel
theorem dX2_letterAt_16 : decode cX2_letterAt 16 = .ok (.if_icmp .ge 12, 3) := by decide +kernel
theorem dX2_letterAt_19 : decode cX2_letterAt 19 = .ok (.aload_n 0, 1) := by decide +kernel
theorem dX2_letterAt_20 : decode cX2_letterAt 20 = .ok (.getfield 9, 3) := by decide +kernel
theorem dX2_letterAt_23 : decode cX2_letterAt 23 = .ok (.iload_n 1, 1) := by decide +kernel
theorem dX2_letterAt_24 : decode cX2_letterAt 24 = .ok (.iaload, 1) := by decide +kernel
theorem dX2_letterAt_25 : decode cX2_letterAt 25 = .ok (.goto 4, 3) := by decide +kernel
theorem dX2_letterAt_28 : decode cX2_letterAt 28 = .ok (.iconst (-1), 1) := by decide +kernel
theorem dX2_letterAt_29 : decode cX2_letterAt 29 = .ok (.ireturn, 1) := by decide +kernel
theorem dX2_readDigits_0 : decode cX2_readDigits 0 = .ok (.aload_n 0, 1) := by decide +kernel
theorem dX2_readDigits_1 : decode cX2_readDigits 1 = .ok (.iconst 0, 1) := by decide +kernel
theorem dX2_readDigits_2 : decode cX2_readDigits 2 = .ok (.putfield 75, 3) := by decide +kernel
theorem dX2_readDigits_5 : decode cX2_readDigits 5 = .ok (.iconst 0, 1) := by decide +kernel
theorem dX2_readDigits_6 : decode cX2_readDigits 6 = .ok (.istore_n 1, 1) := by decide +kernel
theorem dX2_readDigits_7 : decode cX2_readDigits 7 = .ok (.iload_n 1, 1) := by decide +kernel
theorem dX2_readDigits_8 : decode cX2_readDigits 8 = .ok (.sipush 160, 3) := by decide +kernel
theorem dX2_readDigits_11 : decode cX2_readDigits 11 = .ok (.if_icmp .ge 56, 3) := by decide +kernel
theorem dX2_readDigits_14 : decode cX2_readDigits 14 = .ok (.aload_n 0, 1) := by decide +kernel
theorem dX2_readDigits_15 : decode cX2_readDigits 15 = .ok (.aload_n 0, 1) := by decide +kernel
theorem dX2_readDigits_16 : decode cX2_readDigits 16 = .ok (.getfield 23, 3) := by decide +kernel
theorem dX2_readDigits_19 : decode cX2_readDigits 19 = .ok (.invokevirtual 84, 3) := by decide +kernel
theorem dX2_readDigits_22 : decode cX2_readDigits 22 = .ok (.invokestatic 88, 3) := by decide +kernel
theorem dX2_readDigits_25 : decode cX2_readDigits 25 = .ok (.ifCond .eq 42, 3) := by decide +kernel
theorem dX2_readDigits_28 : decode cX2_readDigits 28 = .ok (.aload_n 0, 1) := by decide +kernel
theorem dX2_readDigits_29 : decode cX2_readDigits 29 = .ok (.aload_n 0, 1) := by decide +kernel
theorem dX2_readDigits_30 : decode cX2_readDigits 30 = .ok (.getfield 75, 3) := by decide +kernel
theorem dX2_readDigits_33 : decode cX2_readDigits 33 = .ok (.bipush 10, 2) := by decide +kernel
theorem dX2_readDigits_35 : decode cX2_readDigits 35 = .ok (.imul, 1) := by decide +kernel
theorem dX2_readDigits_36 : decode cX2_readDigits 36 = .ok (.aload_n 0, 1) := by decide +kernel
theorem dX2_readDigits_37 : decode cX2_readDigits 37 = .ok (.aload_n 0, 1) := by decide +kernel
theorem dX2_readDigits_38 : decode cX2_readDigits 38 = .ok (.getfield 23, 3) := by decide +kernel
theorem dX2_readDigits_41 : decode cX2_readDigits 41 = .ok (.invokevirtual 84, 3) := by decide +kernel
theorem dX2_readDigits_44 : decode cX2_readDigits 44 = .ok (.iadd, 1) := by decide +kernel
theorem dX2_readDigits_45 : decode cX2_readDigits 45 = .ok (.bipush 48, 2) := by decide +kernel
theorem dX2_readDigits_47 : decode cX2_readDigits 47 = .ok (.isub, 1) := by decide +kernel
theorem dX2_readDigits_48 : decode cX2_readDigits 48 = .ok (.putfield 75, 3) := by decide +kernel
theorem dX2_readDigits_51 : decode cX2_readDigits 51 = .ok (.aload_n 0, 1) := by decide +kernel
theorem dX2_readDigits_52 : decode cX2_readDigits 52 = .ok (.dup, 1) := by decide +kernel
theorem dX2_readDigits_53 : decode cX2_readDigits 53 = .ok (.getfield 23, 3) := by decide +kernel
theorem dX2_readDigits_56 : decode cX2_readDigits 56 = .ok (.iconst 1, 1) := by decide +kernel
theorem dX2_readDigits_57 : decode cX2_readDigits 57 = .ok (.iadd, 1) := by decide +kernel
theorem dX2_readDigits_58 : decode cX2_readDigits 58 = .ok (.putfield 23, 3) := by decide +kernel
theorem dX2_readDigits_61 : decode cX2_readDigits 61 = .ok (.iinc 1 1, 3) := by decide +kernel
theorem dX2_readDigits_64 : decode cX2_readDigits 64 = .ok (.goto (-57), 3) := by decide +kernel
theorem dX2_readDigits_67 : decode cX2_readDigits 67 = .ok (.aload_n 0, 1) := by decide +kernel
theorem dX2_readDigits_68 : decode cX2_readDigits 68 = .ok (.aload_n 0, 1) := by decide +kernel
theorem dX2_readDigits_69 : decode cX2_readDigits 69 = .ok (.getfield 23, 3) := by decide +kernel
theorem dX2_readDigits_72 : decode cX2_readDigits 72 = .ok (.aload_n 0, 1) := by decide +kernel
theorem dX2_readDigits_73 : decode cX2_readDigits 73 = .ok (.getfield 44, 3) := by decide +kernel
theorem dX2_readDigits_76 : decode cX2_readDigits 76 = .ok (.isub, 1) := by decide +kernel
theorem dX2_readDigits_77 : decode cX2_readDigits 77 = .ok (.iconst 4, 1) := by decide +kernel
theorem dX2_readDigits_78 : decode cX2_readDigits 78 = .ok (.if_icmp .le 7, 3) := by decide +kernel
theorem dX2_readDigits_81 : decode cX2_readDigits 81 = .ok (.iconst 1, 1) := by decide +kernel
theorem dX2_readDigits_82 : decode cX2_readDigits 82 = .ok (.goto 4, 3) := by decide +kernel
theorem dX2_readDigits_85 : decode cX2_readDigits 85 = .ok (.iconst 2, 1) := by decide +kernel
theorem dX2_readDigits_86 : decode cX2_readDigits 86 = .ok (.putfield 38, 3) := by decide +kernel
theorem dX2_readDigits_89 : decode cX2_readDigits 89 = .ok (.return_, 1) := by decide +kernel
theorem dX2_readWord_0 : decode cX2_readWord 0 = .ok (.iconst 0, 1) := by decide +kernel
theorem dX2_readWord_1 : decode cX2_readWord 1 = .ok (.istore_n 1, 1) := by decide +kernel
theorem dX2_readWord_2 : decode cX2_readWord 2 = .ok (.iload_n 1, 1) := by decide +kernel
theorem dX2_readWord_3 : decode cX2_readWord 3 = .ok (.sipush 160, 3) := by decide +kernel
theorem dX2_readWord_6 : decode cX2_readWord 6 = .ok (.if_icmp .ge 33, 3) := by decide +kernel
theorem dX2_readWord_9 : decode cX2_readWord 9 = .ok (.aload_n 0, 1) := by decide +kernel
theorem dX2_readWord_10 : decode cX2_readWord 10 = .ok (.aload_n 0, 1) := by decide +kernel
theorem dX2_readWord_11 : decode cX2_readWord 11 = .ok (.getfield 23, 3) := by decide +kernel
theorem dX2_readWord_14 : decode cX2_readWord 14 = .ok (.invokevirtual 84, 3) := by decide +kernel
theorem dX2_readWord_17 : decode cX2_readWord 17 = .ok (.invokestatic 94, 3) := by decide +kernel
theorem dX2_readWord_20 : decode cX2_readWord 20 = .ok (.ifCond .eq 19, 3) := by decide +kernel
theorem dX2_readWord_23 : decode cX2_readWord 23 = .ok (.aload_n 0, 1) := by decide +kernel
theorem dX2_readWord_24 : decode cX2_readWord 24 = .ok (.dup, 1) := by decide +kernel
theorem dX2_readWord_25 : decode cX2_readWord 25 = .ok (.getfield 23, 3) := by decide +kernel
theorem dX2_readWord_28 : decode cX2_readWord 28 = .ok (.iconst 1, 1) := by decide +kernel
theorem dX2_readWord_29 : decode cX2_readWord 29 = .ok (.iadd, 1) := by decide +kernel
theorem dX2_readWord_30 : decode cX2_readWord 30 = .ok (.putfield 23, 3) := by decide +kernel
theorem dX2_readWord_33 : decode cX2_readWord 33 = .ok (.iinc 1 1, 3) := by decide +kernel
theorem dX2_readWord_36 : decode cX2_readWord 36 = .ok (.goto (-34), 3) := by decide +kernel
theorem dX2_readWord_39 : decode cX2_readWord 39 = .ok (.aload_n 0, 1) := by decide +kernel
theorem dX2_readWord_40 : decode cX2_readWord 40 = .ok (.iconst 1, 1) := by decide +kernel
theorem dX2_readWord_41 : decode cX2_readWord 41 = .ok (.putfield 38, 3) := by decide +kernel
theorem dX2_readWord_44 : decode cX2_readWord 44 = .ok (.iconst 0, 1) := by decide +kernel
theorem dX2_readWord_45 : decode cX2_readWord 45 = .ok (.istore_n 1, 1) := by decide +kernel
theorem dX2_readWord_46 : decode cX2_readWord 46 = .ok (.iload_n 1, 1) := by decide +kernel
theorem dX2_readWord_47 : decode cX2_readWord 47 = .ok (.bipush 12, 2) := by decide +kernel
theorem dX2_readWord_49 : decode cX2_readWord 49 = .ok (.if_icmp .ge 37, 3) := by decide +kernel
theorem dX2_readWord_52 : decode cX2_readWord 52 = .ok (.aload_n 0, 1) := by decide +kernel
theorem dX2_readWord_53 : decode cX2_readWord 53 = .ok (.getfield 38, 3) := by decide +kernel
theorem dX2_readWord_56 : decode cX2_readWord 56 = .ok (.iconst 1, 1) := by decide +kernel
theorem dX2_readWord_57 : decode cX2_readWord 57 = .ok (.if_icmp .ne 29, 3) := by decide +kernel
theorem dX2_readWord_60 : decode cX2_readWord 60 = .ok (.aload_n 0, 1) := by decide +kernel
theorem dX2_readWord_61 : decode cX2_readWord 61 = .ok (.iload_n 1, 1) := by decide +kernel
theorem dX2_readWord_62 : decode cX2_readWord 62 = .ok (.invokestatic 103, 3) := by decide +kernel
theorem dX2_readWord_65 : decode cX2_readWord 65 = .ok (.invokevirtual 107, 3) := by decide +kernel
theorem dX2_readWord_68 : decode cX2_readWord 68 = .ok (.ifCond .eq 12, 3) := by decide +kernel
theorem dX2_readWord_71 : decode cX2_readWord 71 = .ok (.aload_n 0, 1) := by decide +kernel
theorem dX2_readWord_72 : decode cX2_readWord 72 = .ok (.sipush 256, 3) := by decide +kernel
theorem dX2_readWord_75 : decode cX2_readWord 75 = .ok (.iload_n 1, 1) := by decide +kernel
theorem dX2_readWord_76 : decode cX2_readWord 76 = .ok (.iadd, 1) := by decide +kernel
theorem dX2_readWord_77 : decode cX2_readWord 77 = .ok (.putfield 38, 3) := by decide +kernel
theorem dX2_readWord_80 : decode cX2_readWord 80 = .ok (.iinc 1 1, 3) := by decide +kernel
theorem dX2_readWord_83 : decode cX2_readWord 83 = .ok (.goto (-37), 3) := by decide +kernel
theorem dX2_readWord_86 : decode cX2_readWord 86 = .ok (.return_, 1) := by decide +kernel
theorem dX2_isHere_0 : decode cX2_isHere 0 = .ok (.aload_n 1, 1) := by decide +kernel
theorem dX2_isHere_1 : decode cX2_isHere 1 = .ok (.invokevirtual 111, 3) := by decide +kernel
theorem dX2_isHere_4 : decode cX2_isHere 4 = .ok (.aload_n 0, 1) := by decide +kernel
theorem dX2_isHere_5 : decode cX2_isHere 5 = .ok (.getfield 23, 3) := by decide +kernel
theorem dX2_isHere_8 : decode cX2_isHere 8 = .ok (.aload_n 0, 1) := by decide +kernel
theorem dX2_isHere_9 : decode cX2_isHere 9 = .ok (.getfield 44, 3) := by decide +kernel
theorem dX2_isHere_12 : decode cX2_isHere 12 = .ok (.isub, 1) := by decide +kernel
theorem dX2_isHere_13 : decode cX2_isHere 13 = .ok (.if_icmp .eq 5, 3) := by decide +kernel
theorem dX2_isHere_16 : decode cX2_isHere 16 = .ok (.iconst 0, 1) := by decide +kernel
theorem dX2_isHere_17 : decode cX2_isHere 17 = .ok (.ireturn, 1) := by decide +kernel
theorem dX2_isHere_18 : decode cX2_isHere 18 = .ok (.aload_n 0, 1) := by decide +kernel
theorem dX2_isHere_19 : decode cX2_isHere 19 = .ok (.getfield 44, 3) := by decide +kernel
theorem dX2_isHere_22 : decode cX2_isHere 22 = .ok (.istore_n 2, 1) := by decide +kernel
theorem dX2_isHere_23 : decode cX2_isHere 23 = .ok (.iload_n 2, 1) := by decide +kernel
theorem dX2_isHere_24 : decode cX2_isHere 24 = .ok (.aload_n 0, 1) := by decide +kernel
theorem dX2_isHere_25 : decode cX2_isHere 25 = .ok (.getfield 23, 3) := by decide +kernel
theorem dX2_isHere_28 : decode cX2_isHere 28 = .ok (.if_icmp .ge 37, 3) := by decide +kernel
theorem dX2_isHere_31 : decode cX2_isHere 31 = .ok (.iload_n 2, 1) := by decide +kernel
theorem dX2_isHere_32 : decode cX2_isHere 32 = .ok (.sipush 160, 3) := by decide +kernel
theorem dX2_isHere_35 : decode cX2_isHere 35 = .ok (.if_icmp .ge 30, 3) := by decide +kernel
theorem dX2_isHere_38 : decode cX2_isHere 38 = .ok (.aload_n 1, 1) := by decide +kernel
theorem dX2_isHere_39 : decode cX2_isHere 39 = .ok (.iload_n 2, 1) := by decide +kernel
theorem dX2_isHere_40 : decode cX2_isHere 40 = .ok (.aload_n 0, 1) := by decide +kernel
theorem dX2_isHere_41 : decode cX2_isHere 41 = .ok (.getfield 44, 3) := by decide +kernel
theorem dX2_isHere_44 : decode cX2_isHere 44 = .ok (.isub, 1) := by decide +kernel
theorem dX2_isHere_45 : decode cX2_isHere 45 = .ok (.invokevirtual 117, 3) := by decide +kernel
theorem dX2_isHere_48 : decode cX2_isHere 48 = .ok (.aload_n 0, 1) := by decide +kernel
theorem dX2_isHere_49 : decode cX2_isHere 49 = .ok (.getfield 9, 3) := by decide +kernel
theorem dX2_isHere_52 : decode cX2_isHere 52 = .ok (.iload_n 2, 1) := by decide +kernel
theorem dX2_isHere_53 : decode cX2_isHere 53 = .ok (.iaload, 1) := by decide +kernel
theorem dX2_isHere_54 : decode cX2_isHere 54 = .ok (.if_icmp .eq 5, 3) := by decide +kernel
theorem dX2_isHere_57 : decode cX2_isHere 57 = .ok (.iconst 0, 1) := by decide +kernel
theorem dX2_isHere_58 : decode cX2_isHere 58 = .ok (.ireturn, 1) := by decide +kernel
theorem dX2_isHere_59 : decode cX2_isHere 59 = .ok (.iinc 2 1, 3) := by decide +kernel
theorem dX2_isHere_62 : decode cX2_isHere 62 = .ok (.goto (-39), 3) := by decide +kernel
theorem dX2_isHere_65 : decode cX2_isHere 65 = .ok (.iconst 1, 1) := by decide +kernel
theorem dX2_isHere_66 : decode cX2_isHere 66 = .ok (.ireturn, 1) := by decide +kernel
theorem dX2_isDigit_0 : decode cX2_isDigit 0 = .ok (.iload_n 0, 1) := by decide +kernel
theorem dX2_isDigit_1 : decode cX2_isDigit 1 = .ok (.bipush 48, 2) := by decide +kernel
theorem dX2_isDigit_3 : decode cX2_isDigit 3 = .ok (.if_icmp .lt 13, 3) := by decide +kernel
theorem dX2_isDigit_6 : decode cX2_isDigit 6 = .ok (.iload_n 0, 1) := by decide +kernel
theorem dX2_isDigit_7 : decode cX2_isDigit 7 = .ok (.bipush 57, 2) := by decide +kernel
theorem dX2_isDigit_9 : decode cX2_isDigit 9 = .ok (.if_icmp .gt 7, 3) := by decide +kernel
theorem dX2_isDigit_12 : decode cX2_isDigit 12 = .ok (.iconst 1, 1) := by decide +kernel
theorem dX2_isDigit_13 : decode cX2_isDigit 13 = .ok (.goto 4, 3) := by decide +kernel
theorem dX2_isDigit_16 : decode cX2_isDigit 16 = .ok (.iconst 0, 1) := by decide +kernel
theorem dX2_isDigit_17 : decode cX2_isDigit 17 = .ok (.ireturn, 1) := by decide +kernel
theorem dX2_isSmall_0 : decode cX2_isSmall 0 = .ok (.iload_n 0, 1) := by decide +kernel
theorem dX2_isSmall_1 : decode cX2_isSmall 1 = .ok (.bipush 97, 2) := by decide +kernel
theorem dX2_isSmall_3 : decode cX2_isSmall 3 = .ok (.if_icmp .lt 13, 3) := by decide +kernel
theorem dX2_isSmall_6 : decode cX2_isSmall 6 = .ok (.iload_n 0, 1) := by decide +kernel
theorem dX2_isSmall_7 : decode cX2_isSmall 7 = .ok (.bipush 122, 2) := by decide +kernel
theorem dX2_isSmall_9 : decode cX2_isSmall 9 = .ok (.if_icmp .gt 7, 3) := by decide +kernel
theorem dX2_isSmall_12 : decode cX2_isSmall 12 = .ok (.iconst 1, 1) := by decide +kernel
theorem dX2_isSmall_13 : decode cX2_isSmall 13 = .ok (.goto 4, 3) := by decide +kernel
theorem dX2_isSmall_16 : decode cX2_isSmall 16 = .ok (.iconst 0, 1) := by decide +kernel
theorem dX2_isSmall_17 : decode cX2_isSmall 17 = .ok (.ireturn, 1) := by decide +kernel
theorem dX2_isSign_0 : decode cX2_isSign 0 = .ok (.iload_n 0, 1) := by decide +kernel
theorem dX2_isSign_1 : decode cX2_isSign 1 = .ok (.bipush 40, 2) := by decide +kernel
theorem dX2_isSign_3 : decode cX2_isSign 3 = .ok (.if_icmp .eq 45, 3) := by decide +kernel
theorem dX2_isSign_6 : decode cX2_isSign 6 = .ok (.iload_n 0, 1) := by decide +kernel
theorem dX2_isSign_7 : decode cX2_isSign 7 = .ok (.bipush 41, 2) := by decide +kernel
theorem dX2_isSign_9 : decode cX2_isSign 9 = .ok (.if_icmp .eq 39, 3) := by decide +kernel
theorem dX2_isSign_12 : decode cX2_isSign 12 = .ok (.iload_n 0, 1) := by decide +kernel
theorem dX2_isSign_13 : decode cX2_isSign 13 = .ok (.bipush 59, 2) := by decide +kernel
theorem dX2_isSign_15 : decode cX2_isSign 15 = .ok (.if_icmp .eq 33, 3) := by decide +kernel
theorem dX2_isSign_18 : decode cX2_isSign 18 = .ok (.iload_n 0, 1) := by decide +kernel
theorem dX2_isSign_19 : decode cX2_isSign 19 = .ok (.bipush 43, 2) := by decide +kernel
theorem dX2_isSign_21 : decode cX2_isSign 21 = .ok (.if_icmp .eq 27, 3) := by decide +kernel
theorem dX2_isSign_24 : decode cX2_isSign 24 = .ok (.iload_n 0, 1) := by decide +kernel
theorem dX2_isSign_25 : decode cX2_isSign 25 = .ok (.bipush 45, 2) := by decide +kernel
theorem dX2_isSign_27 : decode cX2_isSign 27 = .ok (.if_icmp .eq 21, 3) := by decide +kernel
theorem dX2_isSign_30 : decode cX2_isSign 30 = .ok (.iload_n 0, 1) := by decide +kernel
theorem dX2_isSign_31 : decode cX2_isSign 31 = .ok (.bipush 42, 2) := by decide +kernel
theorem dX2_isSign_33 : decode cX2_isSign 33 = .ok (.if_icmp .eq 15, 3) := by decide +kernel
theorem dX2_isSign_36 : decode cX2_isSign 36 = .ok (.iload_n 0, 1) := by decide +kernel
theorem dX2_isSign_37 : decode cX2_isSign 37 = .ok (.bipush 60, 2) := by decide +kernel
theorem dX2_isSign_39 : decode cX2_isSign 39 = .ok (.if_icmp .eq 9, 3) := by decide +kernel
theorem dX2_isSign_42 : decode cX2_isSign 42 = .ok (.iload_n 0, 1) := by decide +kernel
theorem dX2_isSign_43 : decode cX2_isSign 43 = .ok (.bipush 61, 2) := by decide +kernel
theorem dX2_isSign_45 : decode cX2_isSign 45 = .ok (.if_icmp .ne 7, 3) := by decide +kernel
theorem dX2_isSign_48 : decode cX2_isSign 48 = .ok (.iconst 1, 1) := by decide +kernel
theorem dX2_isSign_49 : decode cX2_isSign 49 = .ok (.goto 4, 3) := by decide +kernel
theorem dX2_isSign_52 : decode cX2_isSign 52 = .ok (.iconst 0, 1) := by decide +kernel
theorem dX2_isSign_53 : decode cX2_isSign 53 = .ok (.ireturn, 1) := by decide +kernel
theorem dX2_word_0 : decode cX2_word 0 = .ok (.iload_n 0, 1) := by decide +kernel
theorem dX2_word_1 : decode cX2_word 1 = .ok (.tableswitch 92 0 10 #[59, 62, 65, 68, 71, 74, 77, 80, 83, 86, 89], 59) := by decide +kernel
theorem dX2_word_60 : decode cX2_word 60 = .ok (.ldc 121, 2) := by decide +kernel
theorem dX2_word_62 : decode cX2_word 62 = .ok (.areturn, 1) := by decide +kernel
theorem dX2_word_63 : decode cX2_word 63 = .ok (.ldc 123, 2) := by decide +kernel
theorem dX2_word_65 : decode cX2_word 65 = .ok (.areturn, 1) := by decide +kernel
theorem dX2_word_66 : decode cX2_word 66 = .ok (.ldc 125, 2) := by decide +kernel
theorem dX2_word_68 : decode cX2_word 68 = .ok (.areturn, 1) := by decide +kernel
theorem dX2_word_69 : decode cX2_word 69 = .ok (.ldc 127, 2) := by decide +kernel
theorem dX2_word_71 : decode cX2_word 71 = .ok (.areturn, 1) := by decide +kernel
theorem dX2_word_72 : decode cX2_word 72 = .ok (.ldc 129, 2) := by decide +kernel
theorem dX2_word_74 : decode cX2_word 74 = .ok (.areturn, 1) := by decide +kernel
theorem dX2_word_75 : decode cX2_word 75 = .ok (.ldc 131, 2) := by decide +kernel
theorem dX2_word_77 : decode cX2_word 77 = .ok (.areturn, 1) := by decide +kernel
theorem dX2_word_78 : decode cX2_word 78 = .ok (.ldc 132, 2) := by decide +kernel
theorem dX2_word_80 : decode cX2_word 80 = .ok (.areturn, 1) := by decide +kernel
theorem dX2_word_81 : decode cX2_word 81 = .ok (.ldc 134, 2) := by decide +kernel
theorem dX2_word_83 : decode cX2_word 83 = .ok (.areturn, 1) := by decide +kernel
theorem dX2_word_84 : decode cX2_word 84 = .ok (.ldc 136, 2) := by decide +kernel
theorem dX2_word_86 : decode cX2_word 86 = .ok (.areturn, 1) := by decide +kernel
theorem dX2_word_87 : decode cX2_word 87 = .ok (.ldc 138, 2) := by decide +kernel
theorem dX2_word_89 : decode cX2_word 89 = .ok (.areturn, 1) := by decide +kernel
theorem dX2_word_90 : decode cX2_word 90 = .ok (.ldc 140, 2) := by decide +kernel
theorem dX2_word_92 : decode cX2_word 92 = .ok (.areturn, 1) := by decide +kernel
theorem dX2_word_93 : decode cX2_word 93 = .ok (.ldc 142, 2) := by decide +kernel
theorem dX2_word_95 : decode cX2_word 95 = .ok (.areturn, 1) := by decide +kernel
