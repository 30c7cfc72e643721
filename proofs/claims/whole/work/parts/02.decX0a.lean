theorem dX0_init_0 : decode cX0_init 0 = .ok (.aload_n 0, 1) := by decide +kernel
theorem dX0_init_1 : decode cX0_init 1 = .ok (.invokespecial 3, 3) := by decide +kernel
theorem dX0_init_4 : decode cX0_init 4 = .ok (.aload_n 0, 1) := by decide +kernel
theorem dX0_init_5 : decode cX0_init 5 = .ok (.bipush 6, 2) := by decide +kernel
theorem dX0_init_7 : decode cX0_init 7 = .ok (.newarray .int, 2) := by decide +kernel
theorem dX0_init_9 : decode cX0_init 9 = .ok (.putfield 9, 3) := by decide +kernel
theorem dX0_init_12 : decode cX0_init 12 = .ok (.aload_n 0, 1) := by decide +kernel
theorem dX0_init_13 : decode cX0_init 13 = .ok (.bipush 6, 2) := by decide +kernel
theorem dX0_init_15 : decode cX0_init 15 = .ok (.newarray .int, 2) := by decide +kernel
theorem dX0_init_17 : decode cX0_init 17 = .ok (.putfield 15, 3) := by decide +kernel
theorem dX0_init_20 : decode cX0_init 20 = .ok (.aload_n 0, 1) := by decide +kernel
theorem dX0_init_21 : decode cX0_init 21 = .ok (.bipush 6, 2) := by decide +kernel
theorem dX0_init_23 : decode cX0_init 23 = .ok (.newarray .int, 2) := by decide +kernel
theorem dX0_init_25 : decode cX0_init 25 = .ok (.putfield 18, 3) := by decide +kernel
theorem dX0_init_28 : decode cX0_init 28 = .ok (.aload_n 0, 1) := by decide +kernel
theorem dX0_init_29 : decode cX0_init 29 = .ok (.bipush 6, 2) := by decide +kernel
theorem dX0_init_31 : decode cX0_init 31 = .ok (.newarray .int, 2) := by decide +kernel
theorem dX0_init_33 : decode cX0_init 33 = .ok (.putfield 21, 3) := by decide +kernel
theorem dX0_init_36 : decode cX0_init 36 = .ok (.aload_n 0, 1) := by decide +kernel
theorem dX0_init_37 : decode cX0_init 37 = .ok (.aload_n 1, 1) := by decide +kernel
theorem dX0_init_38 : decode cX0_init 38 = .ok (.putfield 24, 3) := by decide +kernel
theorem dX0_init_41 : decode cX0_init 41 = .ok (.return_, 1) := by decide +kernel
theorem dX0_takeFrom_0 : decode cX0_takeFrom 0 = .ok (.aload_n 1, 1) := by decide +kernel
theorem dX0_takeFrom_1 : decode cX0_takeFrom 1 = .ok (.getfield 9, 3) := by decide +kernel
theorem dX0_takeFrom_4 : decode cX0_takeFrom 4 = .ok (.iconst 0, 1) := by decide +kernel
theorem dX0_takeFrom_5 : decode cX0_takeFrom 5 = .ok (.aload_n 0, 1) := by decide +kernel
theorem dX0_takeFrom_6 : decode cX0_takeFrom 6 = .ok (.getfield 9, 3) := by decide +kernel
theorem dX0_takeFrom_9 : decode cX0_takeFrom 9 = .ok (.iconst 0, 1) := by decide +kernel
theorem dX0_takeFrom_10 : decode cX0_takeFrom 10 = .ok (.bipush 6, 2) := by decide +kernel
theorem dX0_takeFrom_12 : decode cX0_takeFrom 12 = .ok (.invokestatic 28, 3) := by decide +kernel
theorem dX0_takeFrom_15 : decode cX0_takeFrom 15 = .ok (.aload_n 1, 1) := by decide +kernel
theorem dX0_takeFrom_16 : decode cX0_takeFrom 16 = .ok (.getfield 15, 3) := by decide +kernel
theorem dX0_takeFrom_19 : decode cX0_takeFrom 19 = .ok (.iconst 0, 1) := by decide +kernel
theorem dX0_takeFrom_20 : decode cX0_takeFrom 20 = .ok (.aload_n 0, 1) := by decide +kernel
theorem dX0_takeFrom_21 : decode cX0_takeFrom 21 = .ok (.getfield 15, 3) := by decide +kernel
theorem dX0_takeFrom_24 : decode cX0_takeFrom 24 = .ok (.iconst 0, 1) := by decide +kernel
theorem dX0_takeFrom_25 : decode cX0_takeFrom 25 = .ok (.bipush 6, 2) := by decide +kernel
theorem dX0_takeFrom_27 : decode cX0_takeFrom 27 = .ok (.invokestatic 28, 3) := by decide +kernel
theorem dX0_takeFrom_30 : decode cX0_takeFrom 30 = .ok (.aload_n 1, 1) := by decide +kernel
theorem dX0_takeFrom_31 : decode cX0_takeFrom 31 = .ok (.getfield 18, 3) := by decide +kernel
theorem dX0_takeFrom_34 : decode cX0_takeFrom 34 = .ok (.iconst 0, 1) := by decide +kernel
theorem dX0_takeFrom_35 : decode cX0_takeFrom 35 = .ok (.aload_n 0, 1) := by decide +kernel
theorem dX0_takeFrom_36 : decode cX0_takeFrom 36 = .ok (.getfield 18, 3) := by decide +kernel
theorem dX0_takeFrom_39 : decode cX0_takeFrom 39 = .ok (.iconst 0, 1) := by decide +kernel
theorem dX0_takeFrom_40 : decode cX0_takeFrom 40 = .ok (.bipush 6, 2) := by decide +kernel
theorem dX0_takeFrom_42 : decode cX0_takeFrom 42 = .ok (.invokestatic 28, 3) := by decide +kernel
theorem dX0_takeFrom_45 : decode cX0_takeFrom 45 = .ok (.aload_n 1, 1) := by decide +kernel
theorem dX0_takeFrom_46 : decode cX0_takeFrom 46 = .ok (.getfield 21, 3) := by decide +kernel
theorem dX0_takeFrom_49 : decode cX0_takeFrom 49 = .ok (.iconst 0, 1) := by decide +kernel
theorem dX0_takeFrom_50 : decode cX0_takeFrom 50 = .ok (.aload_n 0, 1) := by decide +kernel
theorem dX0_takeFrom_51 : decode cX0_takeFrom 51 = .ok (.getfield 21, 3) := by decide +kernel
theorem dX0_takeFrom_54 : decode cX0_takeFrom 54 = .ok (.iconst 0, 1) := by decide +kernel
theorem dX0_takeFrom_55 : decode cX0_takeFrom 55 = .ok (.bipush 6, 2) := by decide +kernel
theorem dX0_takeFrom_57 : decode cX0_takeFrom 57 = .ok (.invokestatic 28, 3) := by decide +kernel
theorem dX0_takeFrom_60 : decode cX0_takeFrom 60 = .ok (.aload_n 0, 1) := by decide +kernel
theorem dX0_takeFrom_61 : decode cX0_takeFrom 61 = .ok (.aload_n 1, 1) := by decide +kernel
theorem dX0_takeFrom_62 : decode cX0_takeFrom 62 = .ok (.getfield 34, 3) := by decide +kernel
theorem dX0_takeFrom_65 : decode cX0_takeFrom 65 = .ok (.putfield 34, 3) := by decide +kernel
theorem dX0_takeFrom_68 : decode cX0_takeFrom 68 = .ok (.aload_n 0, 1) := by decide +kernel
theorem dX0_takeFrom_69 : decode cX0_takeFrom 69 = .ok (.aload_n 1, 1) := by decide +kernel
theorem dX0_takeFrom_70 : decode cX0_takeFrom 70 = .ok (.getfield 38, 3) := by decide +kernel
theorem dX0_takeFrom_73 : decode cX0_takeFrom 73 = .ok (.putfield 38, 3) := by decide +kernel
theorem dX0_takeFrom_76 : decode cX0_takeFrom 76 = .ok (.aload_n 0, 1) := by decide +kernel
theorem dX0_takeFrom_77 : decode cX0_takeFrom 77 = .ok (.aload_n 1, 1) := by decide +kernel
theorem dX0_takeFrom_78 : decode cX0_takeFrom 78 = .ok (.getfield 41, 3) := by decide +kernel
theorem dX0_takeFrom_81 : decode cX0_takeFrom 81 = .ok (.putfield 41, 3) := by decide +kernel
theorem dX0_takeFrom_84 : decode cX0_takeFrom 84 = .ok (.aload_n 0, 1) := by decide +kernel
theorem dX0_takeFrom_85 : decode cX0_takeFrom 85 = .ok (.aload_n 1, 1) := by decide +kernel
theorem dX0_takeFrom_86 : decode cX0_takeFrom 86 = .ok (.getfield 44, 3) := by decide +kernel
theorem dX0_takeFrom_89 : decode cX0_takeFrom 89 = .ok (.putfield 44, 3) := by decide +kernel
theorem dX0_takeFrom_92 : decode cX0_takeFrom 92 = .ok (.aload_n 0, 1) := by decide +kernel
theorem dX0_takeFrom_93 : decode cX0_takeFrom 93 = .ok (.aload_n 1, 1) := by decide +kernel
theorem dX0_takeFrom_94 : decode cX0_takeFrom 94 = .ok (.getfield 47, 3) := by decide +kernel
theorem dX0_takeFrom_97 : decode cX0_takeFrom 97 = .ok (.putfield 47, 3) := by decide +kernel
theorem dX0_takeFrom_100 : decode cX0_takeFrom 100 = .ok (.return_, 1) := by decide +kernel
theorem dX0_has_0 : decode cX0_has 0 = .ok (.iload_n 1, 1) := by decide +kernel
theorem dX0_has_1 : decode cX0_has 1 = .ok (.ifCond .lt 21, 3) := by decide +kernel
theorem dX0_has_4 : decode cX0_has 4 = .ok (.iload_n 1, 1) := by decide +kernel
theorem dX0_has_5 : decode cX0_has 5 = .ok (.aload_n 0, 1) := by decide +kernel
theorem dX0_has_6 : decode cX0_has 6 = .ok (.getfield 34, 3) := by decide +kernel
theorem dX0_has_9 : decode cX0_has 9 = .ok (.if_icmp .ge 13, 3) := by decide +kernel
theorem dX0_has_12 : decode cX0_has 12 = .ok (.iload_n 1, 1) := by decide +kernel
theorem dX0_has_13 : decode cX0_has 13 = .ok (.bipush 6, 2) := by decide +kernel
theorem dX0_has_15 : decode cX0_has 15 = .ok (.if_icmp .ge 7, 3) := by decide +kernel
theorem dX0_has_18 : decode cX0_has 18 = .ok (.iconst 1, 1) := by decide +kernel
theorem dX0_has_19 : decode cX0_has 19 = .ok (.goto 4, 3) := by decide +kernel
theorem dX0_has_22 : decode cX0_has 22 = .ok (.iconst 0, 1) := by decide +kernel
theorem dX0_has_23 : decode cX0_has 23 = .ok (.ireturn, 1) := by decide +kernel
theorem dX0_join_0 : decode cX0_join 0 = .ok (.iload_n 1, 1) := by decide +kernel
theorem dX0_join_1 : decode cX0_join 1 = .ok (.ifCond .lt 29, 3) := by decide +kernel
theorem dX0_join_4 : decode cX0_join 4 = .ok (.iload_n 1, 1) := by decide +kernel
theorem dX0_join_5 : decode cX0_join 5 = .ok (.bipush 6, 2) := by decide +kernel
theorem dX0_join_7 : decode cX0_join 7 = .ok (.if_icmp .ge 23, 3) := by decide +kernel
theorem dX0_join_10 : decode cX0_join 10 = .ok (.iload_n 2, 1) := by decide +kernel
theorem dX0_join_11 : decode cX0_join 11 = .ok (.ifCond .lt 19, 3) := by decide +kernel
theorem dX0_join_14 : decode cX0_join 14 = .ok (.iload_n 2, 1) := by decide +kernel
theorem dX0_join_15 : decode cX0_join 15 = .ok (.bipush 9, 2) := by decide +kernel
theorem dX0_join_17 : decode cX0_join 17 = .ok (.if_icmp .gt 13, 3) := by decide +kernel
theorem dX0_join_20 : decode cX0_join 20 = .ok (.iload_n 3, 1) := by decide +kernel
theorem dX0_join_21 : decode cX0_join 21 = .ok (.ifCond .lt 9, 3) := by decide +kernel
theorem dX0_join_24 : decode cX0_join 24 = .ok (.iload_n 3, 1) := by decide +kernel
theorem dX0_join_25 : decode cX0_join 25 = .ok (.bipush 99, 2) := by decide +kernel
theorem dX0_join_27 : decode cX0_join 27 = .ok (.if_icmp .le 6, 3) := by decide +kernel
theorem dX0_join_30 : decode cX0_join 30 = .ok (.bipush (-2), 2) := by decide +kernel
theorem dX0_join_32 : decode cX0_join 32 = .ok (.ireturn, 1) := by decide +kernel
theorem dX0_join_33 : decode cX0_join 33 = .ok (.aload_n 0, 1) := by decide +kernel
theorem dX0_join_34 : decode cX0_join 34 = .ok (.getfield 34, 3) := by decide +kernel
theorem dX0_join_37 : decode cX0_join 37 = .ok (.bipush 6, 2) := by decide +kernel
theorem dX0_join_39 : decode cX0_join 39 = .ok (.if_icmp .lt 6, 3) := by decide +kernel
theorem dX0_join_42 : decode cX0_join 42 = .ok (.bipush (-4), 2) := by decide +kernel
theorem dX0_join_44 : decode cX0_join 44 = .ok (.ireturn, 1) := by decide +kernel
theorem dX0_join_45 : decode cX0_join 45 = .ok (.aload_n 0, 1) := by decide +kernel
theorem dX0_join_46 : decode cX0_join 46 = .ok (.getfield 34, 3) := by decide +kernel
theorem dX0_join_49 : decode cX0_join 49 = .ok (.istore 4, 2) := by decide +kernel
theorem dX0_join_51 : decode cX0_join 51 = .ok (.aload_n 0, 1) := by decide +kernel
theorem dX0_join_52 : decode cX0_join 52 = .ok (.getfield 9, 3) := by decide +kernel
theorem dX0_join_55 : decode cX0_join 55 = .ok (.iload 4, 2) := by decide +kernel
theorem dX0_join_57 : decode cX0_join 57 = .ok (.iload_n 1, 1) := by decide +kernel
theorem dX0_join_58 : decode cX0_join 58 = .ok (.iastore, 1) := by decide +kernel
theorem dX0_join_59 : decode cX0_join 59 = .ok (.aload_n 0, 1) := by decide +kernel
theorem dX0_join_60 : decode cX0_join 60 = .ok (.getfield 15, 3) := by decide +kernel
theorem dX0_join_63 : decode cX0_join 63 = .ok (.iload 4, 2) := by decide +kernel
theorem dX0_join_65 : decode cX0_join 65 = .ok (.iload_n 2, 1) := by decide +kernel
theorem dX0_join_66 : decode cX0_join 66 = .ok (.iastore, 1) := by decide +kernel
theorem dX0_join_67 : decode cX0_join 67 = .ok (.aload_n 0, 1) := by decide +kernel
theorem dX0_join_68 : decode cX0_join 68 = .ok (.getfield 18, 3) := by decide +kernel
theorem dX0_join_71 : decode cX0_join 71 = .ok (.iload 4, 2) := by decide +kernel
theorem dX0_join_73 : decode cX0_join 73 = .ok (.iload_n 3, 1) := by decide +kernel
theorem dX0_join_74 : decode cX0_join 74 = .ok (.iastore, 1) := by decide +kernel
theorem dX0_join_75 : decode cX0_join 75 = .ok (.aload_n 0, 1) := by decide +kernel
theorem dX0_join_76 : decode cX0_join 76 = .ok (.dup, 1) := by decide +kernel
theorem dX0_join_77 : decode cX0_join 77 = .ok (.getfield 34, 3) := by decide +kernel
theorem dX0_join_80 : decode cX0_join 80 = .ok (.iconst 1, 1) := by decide +kernel
theorem dX0_join_81 : decode cX0_join 81 = .ok (.iadd, 1) := by decide +kernel
theorem dX0_join_82 : decode cX0_join 82 = .ok (.putfield 34, 3) := by decide +kernel
theorem dX0_join_85 : decode cX0_join 85 = .ok (.aload_n 0, 1) := by decide +kernel
theorem dX0_join_86 : decode cX0_join 86 = .ok (.iload 4, 2) := by decide +kernel
theorem dX0_join_88 : decode cX0_join 88 = .ok (.aload_n 0, 1) := by decide +kernel
theorem dX0_join_89 : decode cX0_join 89 = .ok (.getfield 38, 3) := by decide +kernel
theorem dX0_join_92 : decode cX0_join 92 = .ok (.invokevirtual 50, 3) := by decide +kernel
theorem dX0_join_95 : decode cX0_join 95 = .ok (.iload 4, 2) := by decide +kernel
theorem dX0_join_97 : decode cX0_join 97 = .ok (.ireturn, 1) := by decide +kernel
theorem dX0_trait_0 : decode cX0_trait 0 = .ok (.iload_n 1, 1) := by decide +kernel
theorem dX0_trait_1 : decode cX0_trait 1 = .ok (.ifCond .eq 8, 3) := by decide +kernel
theorem dX0_trait_4 : decode cX0_trait 4 = .ok (.iload_n 1, 1) := by decide +kernel
theorem dX0_trait_5 : decode cX0_trait 5 = .ok (.iconst 1, 1) := by decide +kernel
theorem dX0_trait_6 : decode cX0_trait 6 = .ok (.if_icmp .ne 19, 3) := by decide +kernel
theorem dX0_trait_9 : decode cX0_trait 9 = .ok (.iload_n 1, 1) := by decide +kernel
theorem dX0_trait_10 : decode cX0_trait 10 = .ok (.ifCond .ne 10, 3) := by decide +kernel
theorem dX0_trait_13 : decode cX0_trait 13 = .ok (.aload_n 0, 1) := by decide +kernel
theorem dX0_trait_14 : decode cX0_trait 14 = .ok (.getfield 41, 3) := by decide +kernel
theorem dX0_trait_17 : decode cX0_trait 17 = .ok (.goto 7, 3) := by decide +kernel
theorem dX0_trait_20 : decode cX0_trait 20 = .ok (.aload_n 0, 1) := by decide +kernel
theorem dX0_trait_21 : decode cX0_trait 21 = .ok (.getfield 44, 3) := by decide +kernel
theorem dX0_trait_24 : decode cX0_trait 24 = .ok (.ireturn, 1) := by decide +kernel
theorem dX0_trait_25 : decode cX0_trait 25 = .ok (.aload_n 0, 1) := by decide +kernel
theorem dX0_trait_26 : decode cX0_trait 26 = .ok (.iload_n 2, 1) := by decide +kernel
theorem dX0_trait_27 : decode cX0_trait 27 = .ok (.invokevirtual 54, 3) := by decide +kernel
theorem dX0_trait_30 : decode cX0_trait 30 = .ok (.ifCond .ne 7, 3) := by decide +kernel
theorem dX0_trait_33 : decode cX0_trait 33 = .ok (.sipush (-1000), 3) := by decide +kernel
theorem dX0_trait_36 : decode cX0_trait 36 = .ok (.ireturn, 1) := by decide +kernel
theorem dX0_trait_37 : decode cX0_trait 37 = .ok (.iload_n 1, 1) := by decide +kernel
theorem dX0_trait_38 : decode cX0_trait 38 = .ok (.iconst 2, 1) := by decide +kernel
theorem dX0_trait_39 : decode cX0_trait 39 = .ok (.if_icmp .ne 12, 3) := by decide +kernel
theorem dX0_trait_42 : decode cX0_trait 42 = .ok (.aload_n 0, 1) := by decide +kernel
theorem dX0_trait_43 : decode cX0_trait 43 = .ok (.getfield 15, 3) := by decide +kernel
theorem dX0_trait_46 : decode cX0_trait 46 = .ok (.iload_n 2, 1) := by decide +kernel
theorem dX0_trait_47 : decode cX0_trait 47 = .ok (.iaload, 1) := by decide +kernel
theorem dX0_trait_48 : decode cX0_trait 48 = .ok (.goto 23, 3) := by decide +kernel
theorem dX0_trait_51 : decode cX0_trait 51 = .ok (.iload_n 1, 1) := by decide +kernel
theorem dX0_trait_52 : decode cX0_trait 52 = .ok (.iconst 3, 1) := by decide +kernel
theorem dX0_trait_53 : decode cX0_trait 53 = .ok (.if_icmp .ne 12, 3) := by decide +kernel
theorem dX0_trait_56 : decode cX0_trait 56 = .ok (.aload_n 0, 1) := by decide +kernel
theorem dX0_trait_57 : decode cX0_trait 57 = .ok (.getfield 18, 3) := by decide +kernel
theorem dX0_trait_60 : decode cX0_trait 60 = .ok (.iload_n 2, 1) := by decide +kernel
theorem dX0_trait_61 : decode cX0_trait 61 = .ok (.iaload, 1) := by decide +kernel
theorem dX0_trait_62 : decode cX0_trait 62 = .ok (.goto 9, 3) := by decide +kernel
theorem dX0_trait_65 : decode cX0_trait 65 = .ok (.aload_n 0, 1) := by decide +kernel
theorem dX0_trait_66 : decode cX0_trait 66 = .ok (.getfield 9, 3) := by decide +kernel
theorem dX0_trait_69 : decode cX0_trait 69 = .ok (.iload_n 2, 1) := by decide +kernel
theorem dX0_trait_70 : decode cX0_trait 70 = .ok (.iaload, 1) := by decide +kernel
theorem dX0_trait_71 : decode cX0_trait 71 = .ok (.ireturn, 1) := by decide +kernel
theorem dX0_suppose_0 : decode cX0_suppose 0 = .ok (.iload_n 1, 1) := by decide +kernel
theorem dX0_suppose_1 : decode cX0_suppose 1 = .ok (.ifCond .ne 11, 3) := by decide +kernel
theorem dX0_suppose_4 : decode cX0_suppose 4 = .ok (.aload_n 0, 1) := by decide +kernel
theorem dX0_suppose_5 : decode cX0_suppose 5 = .ok (.iload_n 3, 1) := by decide +kernel
theorem dX0_suppose_6 : decode cX0_suppose 6 = .ok (.putfield 41, 3) := by decide +kernel
theorem dX0_suppose_9 : decode cX0_suppose 9 = .ok (.goto 73, 3) := by decide +kernel
theorem dX0_suppose_12 : decode cX0_suppose 12 = .ok (.iload_n 1, 1) := by decide +kernel
theorem dX0_suppose_13 : decode cX0_suppose 13 = .ok (.iconst 1, 1) := by decide +kernel
theorem dX0_suppose_14 : decode cX0_suppose 14 = .ok (.if_icmp .ne 11, 3) := by decide +kernel
theorem dX0_suppose_17 : decode cX0_suppose 17 = .ok (.aload_n 0, 1) := by decide +kernel
theorem dX0_suppose_18 : decode cX0_suppose 18 = .ok (.iload_n 3, 1) := by decide +kernel
theorem dX0_suppose_19 : decode cX0_suppose 19 = .ok (.putfield 44, 3) := by decide +kernel
theorem dX0_suppose_22 : decode cX0_suppose 22 = .ok (.goto 60, 3) := by decide +kernel
theorem dX0_suppose_25 : decode cX0_suppose 25 = .ok (.iload_n 1, 1) := by decide +kernel
theorem dX0_suppose_26 : decode cX0_suppose 26 = .ok (.bipush 9, 2) := by decide +kernel
theorem dX0_suppose_28 : decode cX0_suppose 28 = .ok (.if_icmp .ne 11, 3) := by decide +kernel
theorem dX0_suppose_31 : decode cX0_suppose 31 = .ok (.aload_n 0, 1) := by decide +kernel
theorem dX0_suppose_32 : decode cX0_suppose 32 = .ok (.iload_n 3, 1) := by decide +kernel
theorem dX0_suppose_33 : decode cX0_suppose 33 = .ok (.putfield 47, 3) := by decide +kernel
theorem dX0_suppose_36 : decode cX0_suppose 36 = .ok (.goto 46, 3) := by decide +kernel
theorem dX0_suppose_39 : decode cX0_suppose 39 = .ok (.aload_n 0, 1) := by decide +kernel
theorem dX0_suppose_40 : decode cX0_suppose 40 = .ok (.iload_n 2, 1) := by decide +kernel
theorem dX0_suppose_41 : decode cX0_suppose 41 = .ok (.invokevirtual 54, 3) := by decide +kernel
theorem dX0_suppose_44 : decode cX0_suppose 44 = .ok (.ifCond .eq 38, 3) := by decide +kernel
theorem dX0_suppose_47 : decode cX0_suppose 47 = .ok (.iload_n 1, 1) := by decide +kernel
theorem dX0_suppose_48 : decode cX0_suppose 48 = .ok (.iconst 2, 1) := by decide +kernel
theorem dX0_suppose_49 : decode cX0_suppose 49 = .ok (.if_icmp .ne 10, 3) := by decide +kernel
theorem dX0_suppose_52 : decode cX0_suppose 52 = .ok (.aload_n 0, 1) := by decide +kernel
theorem dX0_suppose_53 : decode cX0_suppose 53 = .ok (.getfield 15, 3) := by decide +kernel
theorem dX0_suppose_56 : decode cX0_suppose 56 = .ok (.goto 19, 3) := by decide +kernel
theorem dX0_suppose_59 : decode cX0_suppose 59 = .ok (.iload_n 1, 1) := by decide +kernel
theorem dX0_suppose_60 : decode cX0_suppose 60 = .ok (.iconst 3, 1) := by decide +kernel
theorem dX0_suppose_61 : decode cX0_suppose 61 = .ok (.if_icmp .ne 10, 3) := by decide +kernel
theorem dX0_suppose_64 : decode cX0_suppose 64 = .ok (.aload_n 0, 1) := by decide +kernel
theorem dX0_suppose_65 : decode cX0_suppose 65 = .ok (.getfield 18, 3) := by decide +kernel
theorem dX0_suppose_68 : decode cX0_suppose 68 = .ok (.goto 7, 3) := by decide +kernel
theorem dX0_suppose_71 : decode cX0_suppose 71 = .ok (.aload_n 0, 1) := by decide +kernel
theorem dX0_suppose_72 : decode cX0_suppose 72 = .ok (.getfield 9, 3) := by decide +kernel
theorem dX0_suppose_75 : decode cX0_suppose 75 = .ok (.astore 4, 2) := by decide +kernel
theorem dX0_suppose_77 : decode cX0_suppose 77 = .ok (.aload 4, 2) := by decide +kernel
theorem dX0_suppose_79 : decode cX0_suppose 79 = .ok (.iload_n 2, 1) := by decide +kernel
theorem dX0_suppose_80 : decode cX0_suppose 80 = .ok (.iload_n 3, 1) := by decide +kernel
theorem dX0_suppose_81 : decode cX0_suppose 81 = .ok (.iastore, 1) := by decide +kernel
theorem dX0_suppose_82 : decode cX0_suppose 82 = .ok (.return_, 1) := by decide +kernel
theorem dX0_who_0 : decode cX0_who 0 = .ok (.iload_n 1, 1) := by decide +kernel
theorem dX0_who_1 : decode cX0_who 1 = .ok (.ifCond .lt 26, 3) := by decide +kernel
theorem dX0_who_4 : decode cX0_who 4 = .ok (.iload_n 1, 1) := by decide +kernel
theorem dX0_who_5 : decode cX0_who 5 = .ok (.aload_n 0, 1) := by decide +kernel
theorem dX0_who_6 : decode cX0_who 6 = .ok (.getfield 38, 3) := by decide +kernel
theorem dX0_who_9 : decode cX0_who 9 = .ok (.if_icmp .ge 18, 3) := by decide +kernel
theorem dX0_who_12 : decode cX0_who 12 = .ok (.iload_n 1, 1) := by decide +kernel
theorem dX0_who_13 : decode cX0_who 13 = .ok (.bipush 6, 2) := by decide +kernel
theorem dX0_who_15 : decode cX0_who 15 = .ok (.if_icmp .ge 12, 3) := by decide +kernel
theorem dX0_who_18 : decode cX0_who 18 = .ok (.aload_n 0, 1) := by decide +kernel
theorem dX0_who_19 : decode cX0_who 19 = .ok (.getfield 21, 3) := by decide +kernel
theorem dX0_who_22 : decode cX0_who 22 = .ok (.iload_n 1, 1) := by decide +kernel
theorem dX0_who_23 : decode cX0_who 23 = .ok (.iaload, 1) := by decide +kernel
theorem dX0_who_24 : decode cX0_who 24 = .ok (.goto 4, 3) := by decide +kernel
theorem dX0_who_27 : decode cX0_who 27 = .ok (.iconst (-1), 1) := by decide +kernel
theorem dX0_who_28 : decode cX0_who 28 = .ok (.ireturn, 1) := by decide +kernel
theorem dX0_placeOf_0 : decode cX0_placeOf 0 = .ok (.iconst 0, 1) := by decide +kernel
theorem dX0_placeOf_1 : decode cX0_placeOf 1 = .ok (.istore_n 2, 1) := by decide +kernel
theorem dX0_placeOf_2 : decode cX0_placeOf 2 = .ok (.iload_n 2, 1) := by decide +kernel
theorem dX0_placeOf_3 : decode cX0_placeOf 3 = .ok (.aload_n 0, 1) := by decide +kernel
theorem dX0_placeOf_4 : decode cX0_placeOf 4 = .ok (.getfield 38, 3) := by decide +kernel
theorem dX0_placeOf_7 : decode cX0_placeOf 7 = .ok (.if_icmp .ge 27, 3) := by decide +kernel
theorem dX0_placeOf_10 : decode cX0_placeOf 10 = .ok (.iload_n 2, 1) := by decide +kernel
theorem dX0_placeOf_11 : decode cX0_placeOf 11 = .ok (.bipush 6, 2) := by decide +kernel
theorem dX0_placeOf_13 : decode cX0_placeOf 13 = .ok (.if_icmp .ge 21, 3) := by decide +kernel
theorem dX0_placeOf_16 : decode cX0_placeOf 16 = .ok (.aload_n 0, 1) := by decide +kernel
theorem dX0_placeOf_17 : decode cX0_placeOf 17 = .ok (.getfield 21, 3) := by decide +kernel
theorem dX0_placeOf_20 : decode cX0_placeOf 20 = .ok (.iload_n 2, 1) := by decide +kernel
theorem dX0_placeOf_21 : decode cX0_placeOf 21 = .ok (.iaload, 1) := by decide +kernel
theorem dX0_placeOf_22 : decode cX0_placeOf 22 = .ok (.iload_n 1, 1) := by decide +kernel
theorem dX0_placeOf_23 : decode cX0_placeOf 23 = .ok (.if_icmp .ne 5, 3) := by decide +kernel
theorem dX0_placeOf_26 : decode cX0_placeOf 26 = .ok (.iload_n 2, 1) := by decide +kernel
theorem dX0_placeOf_27 : decode cX0_placeOf 27 = .ok (.ireturn, 1) := by decide +kernel
theorem dX0_placeOf_28 : decode cX0_placeOf 28 = .ok (.iinc 2 1, 3) := by decide +kernel
theorem dX0_placeOf_31 : decode cX0_placeOf 31 = .ok (.goto (-29), 3) := by decide +kernel
theorem dX0_placeOf_34 : decode cX0_placeOf 34 = .ok (.iconst (-1), 1) := by decide +kernel
theorem dX0_placeOf_35 : decode cX0_placeOf 35 = .ok (.ireturn, 1) := by decide +kernel
theorem dX0_placeBehind_0 : decode cX0_placeBehind 0 = .ok (.iload_n 1, 1) := by decide +kernel
theorem dX0_placeBehind_1 : decode cX0_placeBehind 1 = .ok (.iconst 1, 1) := by decide +kernel
theorem dX0_placeBehind_2 : decode cX0_placeBehind 2 = .ok (.iadd, 1) := by decide +kernel
theorem dX0_placeBehind_3 : decode cX0_placeBehind 3 = .ok (.aload_n 0, 1) := by decide +kernel
theorem dX0_placeBehind_4 : decode cX0_placeBehind 4 = .ok (.getfield 38, 3) := by decide +kernel
theorem dX0_placeBehind_7 : decode cX0_placeBehind 7 = .ok (.if_icmp .ge 9, 3) := by decide +kernel
theorem dX0_placeBehind_10 : decode cX0_placeBehind 10 = .ok (.iload_n 1, 1) := by decide +kernel
theorem dX0_placeBehind_11 : decode cX0_placeBehind 11 = .ok (.iconst 1, 1) := by decide +kernel
theorem dX0_placeBehind_12 : decode cX0_placeBehind 12 = .ok (.iadd, 1) := by decide +kernel
theorem dX0_placeBehind_13 : decode cX0_placeBehind 13 = .ok (.goto 4, 3) := by decide +kernel
theorem dX0_placeBehind_16 : decode cX0_placeBehind 16 = .ok (.iconst 0, 1) := by decide +kernel
theorem dX0_placeBehind_17 : decode cX0_placeBehind 17 = .ok (.ireturn, 1) := by decide +kernel
theorem dX0_leave_0 : decode cX0_leave 0 = .ok (.iload_n 1, 1) := by decide +kernel
theorem dX0_leave_1 : decode cX0_leave 1 = .ok (.ifCond .lt 20, 3) := by decide +kernel
theorem dX0_leave_4 : decode cX0_leave 4 = .ok (.iload_n 1, 1) := by decide +kernel
theorem dX0_leave_5 : decode cX0_leave 5 = .ok (.aload_n 0, 1) := by decide +kernel
theorem dX0_leave_6 : decode cX0_leave 6 = .ok (.getfield 38, 3) := by decide +kernel
theorem dX0_leave_9 : decode cX0_leave 9 = .ok (.if_icmp .ge 12, 3) := by decide +kernel
theorem dX0_leave_12 : decode cX0_leave 12 = .ok (.aload_n 0, 1) := by decide +kernel
theorem dX0_leave_13 : decode cX0_leave 13 = .ok (.getfield 38, 3) := by decide +kernel
theorem dX0_leave_16 : decode cX0_leave 16 = .ok (.bipush 6, 2) := by decide +kernel
theorem dX0_leave_18 : decode cX0_leave 18 = .ok (.if_icmp .le 4, 3) := by decide +kernel
theorem dX0_leave_21 : decode cX0_leave 21 = .ok (.return_, 1) := by decide +kernel
theorem dX0_leave_22 : decode cX0_leave 22 = .ok (.aload_n 0, 1) := by decide +kernel
theorem dX0_leave_23 : decode cX0_leave 23 = .ok (.dup, 1) := by decide +kernel
theorem dX0_leave_24 : decode cX0_leave 24 = .ok (.getfield 38, 3) := by decide +kernel
theorem dX0_leave_27 : decode cX0_leave 27 = .ok (.iconst 1, 1) := by decide +kernel
theorem dX0_leave_28 : decode cX0_leave 28 = .ok (.isub, 1) := by decide +kernel
theorem dX0_leave_29 : decode cX0_leave 29 = .ok (.putfield 38, 3) := by decide +kernel
theorem dX0_leave_32 : decode cX0_leave 32 = .ok (.iload_n 1, 1) := by decide +kernel
theorem dX0_leave_33 : decode cX0_leave 33 = .ok (.istore_n 2, 1) := by decide +kernel
theorem dX0_leave_34 : decode cX0_leave 34 = .ok (.iload_n 2, 1) := by decide +kernel
theorem dX0_leave_35 : decode cX0_leave 35 = .ok (.aload_n 0, 1) := by decide +kernel
theorem dX0_leave_36 : decode cX0_leave 36 = .ok (.getfield 38, 3) := by decide +kernel
theorem dX0_leave_39 : decode cX0_leave 39 = .ok (.if_icmp .ge 23, 3) := by decide +kernel
theorem dX0_leave_42 : decode cX0_leave 42 = .ok (.aload_n 0, 1) := by decide +kernel
theorem dX0_leave_43 : decode cX0_leave 43 = .ok (.getfield 21, 3) := by decide +kernel
theorem dX0_leave_46 : decode cX0_leave 46 = .ok (.iload_n 2, 1) := by decide +kernel
theorem dX0_leave_47 : decode cX0_leave 47 = .ok (.aload_n 0, 1) := by decide +kernel
theorem dX0_leave_48 : decode cX0_leave 48 = .ok (.getfield 21, 3) := by decide +kernel
theorem dX0_leave_51 : decode cX0_leave 51 = .ok (.iload_n 2, 1) := by decide +kernel
theorem dX0_leave_52 : decode cX0_leave 52 = .ok (.iconst 1, 1) := by decide +kernel
theorem dX0_leave_53 : decode cX0_leave 53 = .ok (.iadd, 1) := by decide +kernel
theorem dX0_leave_54 : decode cX0_leave 54 = .ok (.iaload, 1) := by decide +kernel
theorem dX0_leave_55 : decode cX0_leave 55 = .ok (.iastore, 1) := by decide +kernel
theorem dX0_leave_56 : decode cX0_leave 56 = .ok (.iinc 2 1, 3) := by decide +kernel
theorem dX0_leave_59 : decode cX0_leave 59 = .ok (.goto (-25), 3) := by decide +kernel
theorem dX0_leave_62 : decode cX0_leave 62 = .ok (.return_, 1) := by decide +kernel
theorem dX0_enter_0 : decode cX0_enter 0 = .ok (.iload_n 2, 1) := by decide +kernel
theorem dX0_enter_1 : decode cX0_enter 1 = .ok (.ifCond .lt 20, 3) := by decide +kernel
theorem dX0_enter_4 : decode cX0_enter 4 = .ok (.iload_n 2, 1) := by decide +kernel
theorem dX0_enter_5 : decode cX0_enter 5 = .ok (.aload_n 0, 1) := by decide +kernel
theorem dX0_enter_6 : decode cX0_enter 6 = .ok (.getfield 38, 3) := by decide +kernel
theorem dX0_enter_9 : decode cX0_enter 9 = .ok (.if_icmp .gt 12, 3) := by decide +kernel
theorem dX0_enter_12 : decode cX0_enter 12 = .ok (.aload_n 0, 1) := by decide +kernel
theorem dX0_enter_13 : decode cX0_enter 13 = .ok (.getfield 38, 3) := by decide +kernel
theorem dX0_enter_16 : decode cX0_enter 16 = .ok (.bipush 6, 2) := by decide +kernel
theorem dX0_enter_18 : decode cX0_enter 18 = .ok (.if_icmp .lt 4, 3) := by decide +kernel
theorem dX0_enter_21 : decode cX0_enter 21 = .ok (.return_, 1) := by decide +kernel
theorem dX0_enter_22 : decode cX0_enter 22 = .ok (.aload_n 0, 1) := by decide +kernel
theorem dX0_enter_23 : decode cX0_enter 23 = .ok (.getfield 38, 3) := by decide +kernel
theorem dX0_enter_26 : decode cX0_enter 26 = .ok (.istore_n 3, 1) := by decide +kernel
theorem dX0_enter_27 : decode cX0_enter 27 = .ok (.iload_n 3, 1) := by decide +kernel
theorem dX0_enter_28 : decode cX0_enter 28 = .ok (.iload_n 2, 1) := by decide +kernel
theorem dX0_enter_29 : decode cX0_enter 29 = .ok (.if_icmp .le 23, 3) := by decide +kernel
theorem dX0_enter_32 : decode cX0_enter 32 = .ok (.aload_n 0, 1) := by decide +kernel
theorem dX0_enter_33 : decode cX0_enter 33 = .ok (.getfield 21, 3) := by decide +kernel
theorem dX0_enter_36 : decode cX0_enter 36 = .ok (.iload_n 3, 1) := by decide +kernel
theorem dX0_enter_37 : decode cX0_enter 37 = .ok (.aload_n 0, 1) := by decide +kernel
theorem dX0_enter_38 : decode cX0_enter 38 = .ok (.getfield 21, 3) := by decide +kernel
theorem dX0_enter_41 : decode cX0_enter 41 = .ok (.iload_n 3, 1) := by decide +kernel
theorem dX0_enter_42 : decode cX0_enter 42 = .ok (.iconst 1, 1) := by decide +kernel
theorem dX0_enter_43 : decode cX0_enter 43 = .ok (.isub, 1) := by decide +kernel
theorem dX0_enter_44 : decode cX0_enter 44 = .ok (.iaload, 1) := by decide +kernel
theorem dX0_enter_45 : decode cX0_enter 45 = .ok (.iastore, 1) := by decide +kernel
theorem dX0_enter_46 : decode cX0_enter 46 = .ok (.iinc 3 (-1), 3) := by decide +kernel
theorem dX0_enter_49 : decode cX0_enter 49 = .ok (.goto (-22), 3) := by decide +kernel
theorem dX0_enter_52 : decode cX0_enter 52 = .ok (.aload_n 0, 1) := by decide +kernel
theorem dX0_enter_53 : decode cX0_enter 53 = .ok (.getfield 21, 3) := by decide +kernel
theorem dX0_enter_56 : decode cX0_enter 56 = .ok (.iload_n 2, 1) := by decide +kernel
theorem dX0_enter_57 : decode cX0_enter 57 = .ok (.iload_n 1, 1) := by decide +kernel
theorem dX0_enter_58 : decode cX0_enter 58 = .ok (.iastore, 1) := by decide +kernel
theorem dX0_enter_59 : decode cX0_enter 59 = .ok (.aload_n 0, 1) := by decide +kernel
theorem dX0_enter_60 : decode cX0_enter 60 = .ok (.dup, 1) := by decide +kernel
theorem dX0_enter_61 : decode cX0_enter 61 = .ok (.getfield 38, 3) := by decide +kernel
theorem dX0_enter_64 : decode cX0_enter 64 = .ok (.iconst 1, 1) := by decide +kernel
theorem dX0_enter_65 : decode cX0_enter 65 = .ok (.iadd, 1) := by decide +kernel
theorem dX0_enter_66 : decode cX0_enter 66 = .ok (.putfield 38, 3) := by decide +kernel
theorem dX0_enter_69 : decode cX0_enter 69 = .ok (.return_, 1) := by decide +kernel
theorem dX0_exchange_0 : decode cX0_exchange 0 = .ok (.aload_n 0, 1) := by decide +kernel
theorem dX0_exchange_1 : decode cX0_exchange 1 = .ok (.iload_n 1, 1) := by decide +kernel
theorem dX0_exchange_2 : decode cX0_exchange 2 = .ok (.invokevirtual 58, 3) := by decide +kernel
theorem dX0_exchange_5 : decode cX0_exchange 5 = .ok (.istore_n 3, 1) := by decide +kernel
theorem dX0_exchange_6 : decode cX0_exchange 6 = .ok (.aload_n 0, 1) := by decide +kernel
theorem dX0_exchange_7 : decode cX0_exchange 7 = .ok (.iload_n 2, 1) := by decide +kernel
theorem dX0_exchange_8 : decode cX0_exchange 8 = .ok (.invokevirtual 58, 3) := by decide +kernel
theorem dX0_exchange_11 : decode cX0_exchange 11 = .ok (.istore 4, 2) := by decide +kernel
theorem dX0_exchange_13 : decode cX0_exchange 13 = .ok (.iload_n 3, 1) := by decide +kernel
theorem dX0_exchange_14 : decode cX0_exchange 14 = .ok (.iconst (-1), 1) := by decide +kernel
theorem dX0_exchange_15 : decode cX0_exchange 15 = .ok (.if_icmp .eq 24, 3) := by decide +kernel
theorem dX0_exchange_18 : decode cX0_exchange 18 = .ok (.iload 4, 2) := by decide +kernel
theorem dX0_exchange_20 : decode cX0_exchange 20 = .ok (.iconst (-1), 1) := by decide +kernel
theorem dX0_exchange_21 : decode cX0_exchange 21 = .ok (.if_icmp .eq 18, 3) := by decide +kernel
theorem dX0_exchange_24 : decode cX0_exchange 24 = .ok (.aload_n 0, 1) := by decide +kernel
theorem dX0_exchange_25 : decode cX0_exchange 25 = .ok (.getfield 21, 3) := by decide +kernel
theorem dX0_exchange_28 : decode cX0_exchange 28 = .ok (.iload_n 1, 1) := by decide +kernel
theorem dX0_exchange_29 : decode cX0_exchange 29 = .ok (.iload 4, 2) := by decide +kernel
theorem dX0_exchange_31 : decode cX0_exchange 31 = .ok (.iastore, 1) := by decide +kernel
theorem dX0_exchange_32 : decode cX0_exchange 32 = .ok (.aload_n 0, 1) := by decide +kernel
theorem dX0_exchange_33 : decode cX0_exchange 33 = .ok (.getfield 21, 3) := by decide +kernel
theorem dX0_exchange_36 : decode cX0_exchange 36 = .ok (.iload_n 2, 1) := by decide +kernel
theorem dX0_exchange_37 : decode cX0_exchange 37 = .ok (.iload_n 3, 1) := by decide +kernel
theorem dX0_exchange_38 : decode cX0_exchange 38 = .ok (.iastore, 1) := by decide +kernel
theorem dX0_exchange_39 : decode cX0_exchange 39 = .ok (.return_, 1) := by decide +kernel
theorem dX0_passHour_0 : decode cX0_passHour 0 = .ok (.iconst 0, 1) := by decide +kernel
theorem dX0_passHour_1 : decode cX0_passHour 1 = .ok (.istore_n 1, 1) := by decide +kernel
theorem dX0_passHour_2 : decode cX0_passHour 2 = .ok (.iload_n 1, 1) := by decide +kernel
theorem dX0_passHour_3 : decode cX0_passHour 3 = .ok (.aload_n 0, 1) := by decide +kernel
theorem dX0_passHour_4 : decode cX0_passHour 4 = .ok (.getfield 38, 3) := by decide +kernel
theorem dX0_passHour_7 : decode cX0_passHour 7 = .ok (.if_icmp .ge 45, 3) := by decide +kernel
theorem dX0_passHour_10 : decode cX0_passHour 10 = .ok (.aload_n 0, 1) := by decide +kernel
theorem dX0_passHour_11 : decode cX0_passHour 11 = .ok (.iload_n 1, 1) := by decide +kernel
theorem dX0_passHour_12 : decode cX0_passHour 12 = .ok (.invokevirtual 58, 3) := by decide +kernel
theorem dX0_passHour_15 : decode cX0_passHour 15 = .ok (.istore_n 2, 1) := by decide +kernel
theorem dX0_passHour_16 : decode cX0_passHour 16 = .ok (.aload_n 0, 1) := by decide +kernel
theorem dX0_passHour_17 : decode cX0_passHour 17 = .ok (.iload_n 2, 1) := by decide +kernel
theorem dX0_passHour_18 : decode cX0_passHour 18 = .ok (.invokevirtual 54, 3) := by decide +kernel
theorem dX0_passHour_21 : decode cX0_passHour 21 = .ok (.ifCond .eq 25, 3) := by decide +kernel
theorem dX0_passHour_24 : decode cX0_passHour 24 = .ok (.aload_n 0, 1) := by decide +kernel
theorem dX0_passHour_25 : decode cX0_passHour 25 = .ok (.getfield 18, 3) := by decide +kernel
theorem dX0_passHour_28 : decode cX0_passHour 28 = .ok (.iload_n 2, 1) := by decide +kernel
theorem dX0_passHour_29 : decode cX0_passHour 29 = .ok (.iconst 0, 1) := by decide +kernel
theorem dX0_passHour_30 : decode cX0_passHour 30 = .ok (.aload_n 0, 1) := by decide +kernel
theorem dX0_passHour_31 : decode cX0_passHour 31 = .ok (.getfield 18, 3) := by decide +kernel
theorem dX0_passHour_34 : decode cX0_passHour 34 = .ok (.iload_n 2, 1) := by decide +kernel
theorem dX0_passHour_35 : decode cX0_passHour 35 = .ok (.iaload, 1) := by decide +kernel
theorem dX0_passHour_36 : decode cX0_passHour 36 = .ok (.aload_n 0, 1) := by decide +kernel
theorem dX0_passHour_37 : decode cX0_passHour 37 = .ok (.iload_n 2, 1) := by decide +kernel
theorem dX0_passHour_38 : decode cX0_passHour 38 = .ok (.invokevirtual 62, 3) := by decide +kernel
theorem dX0_passHour_41 : decode cX0_passHour 41 = .ok (.isub, 1) := by decide +kernel
theorem dX0_passHour_42 : decode cX0_passHour 42 = .ok (.invokestatic 65, 3) := by decide +kernel
theorem dX0_passHour_45 : decode cX0_passHour 45 = .ok (.iastore, 1) := by decide +kernel
theorem dX0_passHour_46 : decode cX0_passHour 46 = .ok (.iinc 1 1, 3) := by decide +kernel
theorem dX0_passHour_49 : decode cX0_passHour 49 = .ok (.goto (-47), 3) := by decide +kernel
theorem dX0_passHour_52 : decode cX0_passHour 52 = .ok (.aload_n 0, 1) := by decide +kernel
theorem dX0_passHour_53 : decode cX0_passHour 53 = .ok (.dup, 1) := by decide +kernel
theorem dX0_passHour_54 : decode cX0_passHour 54 = .ok (.getfield 41, 3) := by decide +kernel
theorem dX0_passHour_57 : decode cX0_passHour 57 = .ok (.iconst 1, 1) := by decide +kernel
theorem dX0_passHour_58 : decode cX0_passHour 58 = .ok (.iadd, 1) := by decide +kernel
theorem dX0_passHour_59 : decode cX0_passHour 59 = .ok (.putfield 41, 3) := by decide +kernel
theorem dX0_passHour_62 : decode cX0_passHour 62 = .ok (.return_, 1) := by decide +kernel
theorem dX0_holds_0 : decode cX0_holds 0 = .ok (.aload_n 0, 1) := by decide +kernel
theorem dX0_holds_1 : decode cX0_holds 1 = .ok (.getfield 38, 3) := by decide +kernel
theorem dX0_holds_4 : decode cX0_holds 4 = .ok (.iconst 2, 1) := by decide +kernel
theorem dX0_holds_5 : decode cX0_holds 5 = .ok (.if_icmp .ge 7, 3) := by decide +kernel
theorem dX0_holds_8 : decode cX0_holds 8 = .ok (.iconst 0, 1) := by decide +kernel
theorem dX0_holds_9 : decode cX0_holds 9 = .ok (.goto 7, 3) := by decide +kernel
theorem dX0_holds_12 : decode cX0_holds 12 = .ok (.aload_n 0, 1) := by decide +kernel
theorem dX0_holds_13 : decode cX0_holds 13 = .ok (.getfield 38, 3) := by decide +kernel
theorem dX0_holds_16 : decode cX0_holds 16 = .ok (.ireturn, 1) := by decide +kernel
theorem dX0_holdFrom_0 : decode cX0_holdFrom 0 = .ok (.aload_n 0, 1) := by decide +kernel
theorem dX0_holdFrom_1 : decode cX0_holdFrom 1 = .ok (.iload_n 1, 1) := by decide +kernel
theorem dX0_holdFrom_2 : decode cX0_holdFrom 2 = .ok (.invokevirtual 58, 3) := by decide +kernel
theorem dX0_holdFrom_5 : decode cX0_holdFrom 5 = .ok (.istore_n 2, 1) := by decide +kernel
theorem dX0_holdFrom_6 : decode cX0_holdFrom 6 = .ok (.aload_n 0, 1) := by decide +kernel
theorem dX0_holdFrom_7 : decode cX0_holdFrom 7 = .ok (.aload_n 0, 1) := by decide +kernel
theorem dX0_holdFrom_8 : decode cX0_holdFrom 8 = .ok (.iload_n 1, 1) := by decide +kernel
theorem dX0_holdFrom_9 : decode cX0_holdFrom 9 = .ok (.invokevirtual 71, 3) := by decide +kernel
theorem dX0_holdFrom_12 : decode cX0_holdFrom 12 = .ok (.invokevirtual 58, 3) := by decide +kernel
theorem dX0_holdFrom_15 : decode cX0_holdFrom 15 = .ok (.istore_n 3, 1) := by decide +kernel
theorem dX0_holdFrom_16 : decode cX0_holdFrom 16 = .ok (.aload_n 0, 1) := by decide +kernel
theorem dX0_holdFrom_17 : decode cX0_holdFrom 17 = .ok (.iload_n 2, 1) := by decide +kernel
theorem dX0_holdFrom_18 : decode cX0_holdFrom 18 = .ok (.iload_n 3, 1) := by decide +kernel
theorem dX0_holdFrom_19 : decode cX0_holdFrom 19 = .ok (.invokevirtual 74, 3) := by decide +kernel
theorem dX0_holdFrom_22 : decode cX0_holdFrom 22 = .ok (.aload_n 0, 1) := by decide +kernel
theorem dX0_holdFrom_23 : decode cX0_holdFrom 23 = .ok (.iload_n 3, 1) := by decide +kernel
theorem dX0_holdFrom_24 : decode cX0_holdFrom 24 = .ok (.iload_n 2, 1) := by decide +kernel
theorem dX0_holdFrom_25 : decode cX0_holdFrom 25 = .ok (.invokevirtual 74, 3) := by decide +kernel
theorem dX0_holdFrom_28 : decode cX0_holdFrom 28 = .ok (.invokestatic 77, 3) := by decide +kernel
theorem dX0_holdFrom_31 : decode cX0_holdFrom 31 = .ok (.ireturn, 1) := by decide +kernel
theorem dX0_weakest_0 : decode cX0_weakest 0 = .ok (.aload_n 0, 1) := by decide +kernel
theorem dX0_weakest_1 : decode cX0_weakest 1 = .ok (.invokevirtual 80, 3) := by decide +kernel
theorem dX0_weakest_4 : decode cX0_weakest 4 = .ok (.istore_n 1, 1) := by decide +kernel
theorem dX0_weakest_5 : decode cX0_weakest 5 = .ok (.iconst (-1), 1) := by decide +kernel
theorem dX0_weakest_6 : decode cX0_weakest 6 = .ok (.istore_n 2, 1) := by decide +kernel
theorem dX0_weakest_7 : decode cX0_weakest 7 = .ok (.iconst 0, 1) := by decide +kernel
theorem dX0_weakest_8 : decode cX0_weakest 8 = .ok (.istore_n 3, 1) := by decide +kernel
theorem dX0_weakest_9 : decode cX0_weakest 9 = .ok (.iload_n 3, 1) := by decide +kernel
theorem dX0_weakest_10 : decode cX0_weakest 10 = .ok (.iload_n 1, 1) := by decide +kernel
theorem dX0_weakest_11 : decode cX0_weakest 11 = .ok (.if_icmp .ge 34, 3) := by decide +kernel
theorem dX0_weakest_14 : decode cX0_weakest 14 = .ok (.aload_n 0, 1) := by decide +kernel
theorem dX0_weakest_15 : decode cX0_weakest 15 = .ok (.iload_n 3, 1) := by decide +kernel
theorem dX0_weakest_16 : decode cX0_weakest 16 = .ok (.invokevirtual 84, 3) := by decide +kernel
theorem dX0_weakest_19 : decode cX0_weakest 19 = .ok (.istore 4, 2) := by decide +kernel
theorem dX0_weakest_21 : decode cX0_weakest 21 = .ok (.iload_n 2, 1) := by decide +kernel
theorem dX0_weakest_22 : decode cX0_weakest 22 = .ok (.iconst (-1), 1) := by decide +kernel
theorem dX0_weakest_23 : decode cX0_weakest 23 = .ok (.if_icmp .eq 9, 3) := by decide +kernel
theorem dX0_weakest_26 : decode cX0_weakest 26 = .ok (.iload 4, 2) := by decide +kernel
theorem dX0_weakest_28 : decode cX0_weakest 28 = .ok (.iload_n 2, 1) := by decide +kernel
theorem dX0_weakest_29 : decode cX0_weakest 29 = .ok (.if_icmp .ge 8, 3) := by decide +kernel
theorem dX0_weakest_32 : decode cX0_weakest 32 = .ok (.iload 4, 2) := by decide +kernel
theorem dX0_weakest_34 : decode cX0_weakest 34 = .ok (.goto 4, 3) := by decide +kernel
theorem dX0_weakest_37 : decode cX0_weakest 37 = .ok (.iload_n 2, 1) := by decide +kernel
theorem dX0_weakest_38 : decode cX0_weakest 38 = .ok (.istore_n 2, 1) := by decide +kernel
theorem dX0_weakest_39 : decode cX0_weakest 39 = .ok (.iinc 3 1, 3) := by decide +kernel
theorem dX0_weakest_42 : decode cX0_weakest 42 = .ok (.goto (-33), 3) := by decide +kernel
theorem dX0_weakest_45 : decode cX0_weakest 45 = .ok (.iload_n 2, 1) := by decide +kernel
theorem dX0_weakest_46 : decode cX0_weakest 46 = .ok (.ireturn, 1) := by decide +kernel
theorem dX0_gates_0 : decode cX0_gates 0 = .ok (.aload_n 0, 1) := by decide +kernel
theorem dX0_gates_1 : decode cX0_gates 1 = .ok (.invokevirtual 80, 3) := by decide +kernel
theorem dX0_gates_4 : decode cX0_gates 4 = .ok (.istore_n 1, 1) := by decide +kernel
theorem dX0_gates_5 : decode cX0_gates 5 = .ok (.iconst 0, 1) := by decide +kernel
theorem dX0_gates_6 : decode cX0_gates 6 = .ok (.istore_n 2, 1) := by decide +kernel
theorem dX0_gates_7 : decode cX0_gates 7 = .ok (.iconst 0, 1) := by decide +kernel
theorem dX0_gates_8 : decode cX0_gates 8 = .ok (.istore_n 3, 1) := by decide +kernel
theorem dX0_gates_9 : decode cX0_gates 9 = .ok (.iload_n 3, 1) := by decide +kernel
theorem dX0_gates_10 : decode cX0_gates 10 = .ok (.iload_n 1, 1) := by decide +kernel
theorem dX0_gates_11 : decode cX0_gates 11 = .ok (.if_icmp .ge 20, 3) := by decide +kernel
theorem dX0_gates_14 : decode cX0_gates 14 = .ok (.aload_n 0, 1) := by decide +kernel
theorem dX0_gates_15 : decode cX0_gates 15 = .ok (.iload_n 3, 1) := by decide +kernel
theorem dX0_gates_16 : decode cX0_gates 16 = .ok (.invokevirtual 84, 3) := by decide +kernel
theorem dX0_gates_19 : decode cX0_gates 19 = .ok (.ifCond .ne 6, 3) := by decide +kernel
theorem dX0_gates_22 : decode cX0_gates 22 = .ok (.iinc 2 1, 3) := by decide +kernel
theorem dX0_gates_25 : decode cX0_gates 25 = .ok (.iinc 3 1, 3) := by decide +kernel
theorem dX0_gates_28 : decode cX0_gates 28 = .ok (.goto (-19), 3) := by decide +kernel
theorem dX0_gates_31 : decode cX0_gates 31 = .ok (.iload_n 2, 1) := by decide +kernel
theorem dX0_gates_32 : decode cX0_gates 32 = .ok (.ireturn, 1) := by decide +kernel
theorem dX0_firstGate_0 : decode cX0_firstGate 0 = .ok (.aload_n 0, 1) := by decide +kernel
theorem dX0_firstGate_1 : decode cX0_firstGate 1 = .ok (.invokevirtual 80, 3) := by decide +kernel
theorem dX0_firstGate_4 : decode cX0_firstGate 4 = .ok (.istore_n 1, 1) := by decide +kernel
theorem dX0_firstGate_5 : decode cX0_firstGate 5 = .ok (.iconst 0, 1) := by decide +kernel
theorem dX0_firstGate_6 : decode cX0_firstGate 6 = .ok (.istore_n 2, 1) := by decide +kernel
theorem dX0_firstGate_7 : decode cX0_firstGate 7 = .ok (.iload_n 2, 1) := by decide +kernel
theorem dX0_firstGate_8 : decode cX0_firstGate 8 = .ok (.iload_n 1, 1) := by decide +kernel
theorem dX0_firstGate_9 : decode cX0_firstGate 9 = .ok (.if_icmp .ge 19, 3) := by decide +kernel
theorem dX0_firstGate_12 : decode cX0_firstGate 12 = .ok (.aload_n 0, 1) := by decide +kernel
theorem dX0_firstGate_13 : decode cX0_firstGate 13 = .ok (.iload_n 2, 1) := by decide +kernel
theorem dX0_firstGate_14 : decode cX0_firstGate 14 = .ok (.invokevirtual 84, 3) := by decide +kernel
theorem dX0_firstGate_17 : decode cX0_firstGate 17 = .ok (.ifCond .ne 5, 3) := by decide +kernel
theorem dX0_firstGate_20 : decode cX0_firstGate 20 = .ok (.iload_n 2, 1) := by decide +kernel
theorem dX0_firstGate_21 : decode cX0_firstGate 21 = .ok (.ireturn, 1) := by decide +kernel
theorem dX0_firstGate_22 : decode cX0_firstGate 22 = .ok (.iinc 2 1, 3) := by decide +kernel
theorem dX0_firstGate_25 : decode cX0_firstGate 25 = .ok (.goto (-18), 3) := by decide +kernel
theorem dX0_firstGate_28 : decode cX0_firstGate 28 = .ok (.iconst (-1), 1) := by decide +kernel
theorem dX0_firstGate_29 : decode cX0_firstGate 29 = .ok (.ireturn, 1) := by decide +kernel
theorem dX0_firstUnlike_0 : decode cX0_firstUnlike 0 = .ok (.aload_n 0, 1) := by decide +kernel
theorem dX0_firstUnlike_1 : decode cX0_firstUnlike 1 = .ok (.invokevirtual 80, 3) := by decide +kernel
theorem dX0_firstUnlike_4 : decode cX0_firstUnlike 4 = .ok (.istore_n 2, 1) := by decide +kernel
theorem dX0_firstUnlike_5 : decode cX0_firstUnlike 5 = .ok (.iconst 0, 1) := by decide +kernel
theorem dX0_firstUnlike_6 : decode cX0_firstUnlike 6 = .ok (.istore_n 3, 1) := by decide +kernel
theorem dX0_firstUnlike_7 : decode cX0_firstUnlike 7 = .ok (.iload_n 3, 1) := by decide +kernel
theorem dX0_firstUnlike_8 : decode cX0_firstUnlike 8 = .ok (.aload_n 1, 1) := by decide +kernel
theorem dX0_firstUnlike_9 : decode cX0_firstUnlike 9 = .ok (.getfield 87, 3) := by decide +kernel
theorem dX0_firstUnlike_12 : decode cX0_firstUnlike 12 = .ok (.if_icmp .ge 36, 3) := by decide +kernel
theorem dX0_firstUnlike_15 : decode cX0_firstUnlike 15 = .ok (.iload_n 3, 1) := by decide +kernel
theorem dX0_firstUnlike_16 : decode cX0_firstUnlike 16 = .ok (.bipush 40, 2) := by decide +kernel
theorem dX0_firstUnlike_18 : decode cX0_firstUnlike 18 = .ok (.if_icmp .ge 30, 3) := by decide +kernel
theorem dX0_firstUnlike_21 : decode cX0_firstUnlike 21 = .ok (.iload_n 3, 1) := by decide +kernel
theorem dX0_firstUnlike_22 : decode cX0_firstUnlike 22 = .ok (.iload_n 2, 1) := by decide +kernel
theorem dX0_firstUnlike_23 : decode cX0_firstUnlike 23 = .ok (.if_icmp .ge 17, 3) := by decide +kernel
theorem dX0_firstUnlike_26 : decode cX0_firstUnlike 26 = .ok (.aload_n 0, 1) := by decide +kernel
theorem dX0_firstUnlike_27 : decode cX0_firstUnlike 27 = .ok (.iload_n 3, 1) := by decide +kernel
theorem dX0_firstUnlike_28 : decode cX0_firstUnlike 28 = .ok (.invokevirtual 84, 3) := by decide +kernel
theorem dX0_firstUnlike_31 : decode cX0_firstUnlike 31 = .ok (.aload_n 1, 1) := by decide +kernel
theorem dX0_firstUnlike_32 : decode cX0_firstUnlike 32 = .ok (.getfield 92, 3) := by decide +kernel
theorem dX0_firstUnlike_35 : decode cX0_firstUnlike 35 = .ok (.iload_n 3, 1) := by decide +kernel
theorem dX0_firstUnlike_36 : decode cX0_firstUnlike 36 = .ok (.iaload, 1) := by decide +kernel
theorem dX0_firstUnlike_37 : decode cX0_firstUnlike 37 = .ok (.if_icmp .eq 5, 3) := by decide +kernel
theorem dX0_firstUnlike_40 : decode cX0_firstUnlike 40 = .ok (.iload_n 3, 1) := by decide +kernel
theorem dX0_firstUnlike_41 : decode cX0_firstUnlike 41 = .ok (.ireturn, 1) := by decide +kernel
theorem dX0_firstUnlike_42 : decode cX0_firstUnlike 42 = .ok (.iinc 3 1, 3) := by decide +kernel
theorem dX0_firstUnlike_45 : decode cX0_firstUnlike 45 = .ok (.goto (-38), 3) := by decide +kernel
theorem dX0_firstUnlike_48 : decode cX0_firstUnlike 48 = .ok (.iconst (-1), 1) := by decide +kernel
theorem dX0_firstUnlike_49 : decode cX0_firstUnlike 49 = .ok (.ireturn, 1) := by decide +kernel
theorem dX0_gripOf_0 : decode cX0_gripOf 0 = .ok (.aload_n 0, 1) := by decide +kernel
theorem dX0_gripOf_1 : decode cX0_gripOf 1 = .ok (.iload_n 1, 1) := by decide +kernel
theorem dX0_gripOf_2 : decode cX0_gripOf 2 = .ok (.invokevirtual 54, 3) := by decide +kernel
theorem dX0_gripOf_5 : decode cX0_gripOf 5 = .ok (.ifCond .eq 11, 3) := by decide +kernel
theorem dX0_gripOf_8 : decode cX0_gripOf 8 = .ok (.aload_n 0, 1) := by decide +kernel
theorem dX0_gripOf_9 : decode cX0_gripOf 9 = .ok (.iload_n 2, 1) := by decide +kernel
theorem dX0_gripOf_10 : decode cX0_gripOf 10 = .ok (.invokevirtual 54, 3) := by decide +kernel
theorem dX0_gripOf_13 : decode cX0_gripOf 13 = .ok (.ifCond .ne 5, 3) := by decide +kernel
theorem dX0_gripOf_16 : decode cX0_gripOf 16 = .ok (.iconst 0, 1) := by decide +kernel
theorem dX0_gripOf_17 : decode cX0_gripOf 17 = .ok (.ireturn, 1) := by decide +kernel
theorem dX0_gripOf_18 : decode cX0_gripOf 18 = .ok (.aload_n 0, 1) := by decide +kernel
theorem dX0_gripOf_19 : decode cX0_gripOf 19 = .ok (.getfield 24, 3) := by decide +kernel
theorem dX0_gripOf_22 : decode cX0_gripOf 22 = .ok (.iconst 0, 1) := by decide +kernel
theorem dX0_gripOf_23 : decode cX0_gripOf 23 = .ok (.aload_n 0, 1) := by decide +kernel
theorem dX0_gripOf_24 : decode cX0_gripOf 24 = .ok (.iload_n 1, 1) := by decide +kernel
theorem dX0_gripOf_25 : decode cX0_gripOf 25 = .ok (.iload_n 2, 1) := by decide +kernel
theorem dX0_gripOf_26 : decode cX0_gripOf 26 = .ok (.invokevirtual 95, 3) := by decide +kernel
theorem dX0_gripOf_29 : decode cX0_gripOf 29 = .ok (.invokestatic 101, 3) := by decide +kernel
theorem dX0_gripOf_32 : decode cX0_gripOf 32 = .ok (.istore_n 3, 1) := by decide +kernel
theorem dX0_gripOf_33 : decode cX0_gripOf 33 = .ok (.iload_n 3, 1) := by decide +kernel
theorem dX0_gripOf_34 : decode cX0_gripOf 34 = .ok (.aload_n 0, 1) := by decide +kernel
theorem dX0_gripOf_35 : decode cX0_gripOf 35 = .ok (.getfield 15, 3) := by decide +kernel
theorem dX0_gripOf_38 : decode cX0_gripOf 38 = .ok (.iload_n 1, 1) := by decide +kernel
theorem dX0_gripOf_39 : decode cX0_gripOf 39 = .ok (.iaload, 1) := by decide +kernel
theorem dX0_gripOf_40 : decode cX0_gripOf 40 = .ok (.isub, 1) := by decide +kernel
theorem dX0_gripOf_41 : decode cX0_gripOf 41 = .ok (.istore 4, 2) := by decide +kernel
theorem dX0_gripOf_43 : decode cX0_gripOf 43 = .ok (.aload_n 0, 1) := by decide +kernel
theorem dX0_gripOf_44 : decode cX0_gripOf 44 = .ok (.getfield 9, 3) := by decide +kernel
theorem dX0_gripOf_47 : decode cX0_gripOf 47 = .ok (.iload_n 1, 1) := by decide +kernel
theorem dX0_gripOf_48 : decode cX0_gripOf 48 = .ok (.iaload, 1) := by decide +kernel
theorem dX0_gripOf_49 : decode cX0_gripOf 49 = .ok (.tableswitch 104 1 5 #[35, 45, 51, 81, 97], 35) := by decide +kernel
theorem dX0_gripOf_84 : decode cX0_gripOf 84 = .ok (.aload_n 0, 1) := by decide +kernel
theorem dX0_gripOf_85 : decode cX0_gripOf 85 = .ok (.iload_n 3, 1) := by decide +kernel
theorem dX0_gripOf_86 : decode cX0_gripOf 86 = .ok (.iload_n 2, 1) := by decide +kernel
theorem dX0_gripOf_87 : decode cX0_gripOf 87 = .ok (.invokevirtual 104, 3) := by decide +kernel
theorem dX0_gripOf_90 : decode cX0_gripOf 90 = .ok (.invokestatic 101, 3) := by decide +kernel
theorem dX0_gripOf_93 : decode cX0_gripOf 93 = .ok (.ireturn, 1) := by decide +kernel
theorem dX0_gripOf_94 : decode cX0_gripOf 94 = .ok (.iload 4, 2) := by decide +kernel
theorem dX0_gripOf_96 : decode cX0_gripOf 96 = .ok (.invokestatic 101, 3) := by decide +kernel
theorem dX0_gripOf_99 : decode cX0_gripOf 99 = .ok (.ireturn, 1) := by decide +kernel
theorem dX0_gripOf_100 : decode cX0_gripOf 100 = .ok (.aload_n 0, 1) := by decide +kernel
theorem dX0_gripOf_101 : decode cX0_gripOf 101 = .ok (.getfield 15, 3) := by decide +kernel
theorem dX0_gripOf_104 : decode cX0_gripOf 104 = .ok (.iload_n 1, 1) := by decide +kernel
theorem dX0_gripOf_105 : decode cX0_gripOf 105 = .ok (.iaload, 1) := by decide +kernel
theorem dX0_gripOf_106 : decode cX0_gripOf 106 = .ok (.aload_n 0, 1) := by decide +kernel
theorem dX0_gripOf_107 : decode cX0_gripOf 107 = .ok (.getfield 15, 3) := by decide +kernel
theorem dX0_gripOf_110 : decode cX0_gripOf 110 = .ok (.iload_n 2, 1) := by decide +kernel
theorem dX0_gripOf_111 : decode cX0_gripOf 111 = .ok (.iaload, 1) := by decide +kernel
theorem dX0_gripOf_112 : decode cX0_gripOf 112 = .ok (.if_icmp .ne 8, 3) := by decide +kernel
theorem dX0_gripOf_115 : decode cX0_gripOf 115 = .ok (.bipush 99, 2) := by decide +kernel
theorem dX0_gripOf_117 : decode cX0_gripOf 117 = .ok (.goto 12, 3) := by decide +kernel
theorem dX0_gripOf_120 : decode cX0_gripOf 120 = .ok (.aload_n 0, 1) := by decide +kernel
theorem dX0_gripOf_121 : decode cX0_gripOf 121 = .ok (.iload_n 3, 1) := by decide +kernel
theorem dX0_gripOf_122 : decode cX0_gripOf 122 = .ok (.iload_n 2, 1) := by decide +kernel
theorem dX0_gripOf_123 : decode cX0_gripOf 123 = .ok (.invokevirtual 104, 3) := by decide +kernel
theorem dX0_gripOf_126 : decode cX0_gripOf 126 = .ok (.invokestatic 101, 3) := by decide +kernel
theorem dX0_gripOf_129 : decode cX0_gripOf 129 = .ok (.ireturn, 1) := by decide +kernel
theorem dX0_gripOf_130 : decode cX0_gripOf 130 = .ok (.iload 4, 2) := by decide +kernel
theorem dX0_gripOf_132 : decode cX0_gripOf 132 = .ok (.aload_n 0, 1) := by decide +kernel
theorem dX0_gripOf_133 : decode cX0_gripOf 133 = .ok (.getfield 41, 3) := by decide +kernel
theorem dX0_gripOf_136 : decode cX0_gripOf 136 = .ok (.bipush 20, 2) := by decide +kernel
theorem dX0_gripOf_138 : decode cX0_gripOf 138 = .ok (.invokestatic 77, 3) := by decide +kernel
theorem dX0_gripOf_141 : decode cX0_gripOf 141 = .ok (.iadd, 1) := by decide +kernel
theorem dX0_gripOf_142 : decode cX0_gripOf 142 = .ok (.invokestatic 101, 3) := by decide +kernel
theorem dX0_gripOf_145 : decode cX0_gripOf 145 = .ok (.ireturn, 1) := by decide +kernel
theorem dX0_gripOf_146 : decode cX0_gripOf 146 = .ok (.aload_n 0, 1) := by decide +kernel
theorem dX0_gripOf_147 : decode cX0_gripOf 147 = .ok (.getfield 18, 3) := by decide +kernel
theorem dX0_gripOf_150 : decode cX0_gripOf 150 = .ok (.iload_n 1, 1) := by decide +kernel
theorem dX0_gripOf_151 : decode cX0_gripOf 151 = .ok (.iaload, 1) := by decide +kernel
theorem dX0_gripOf_152 : decode cX0_gripOf 152 = .ok (.ireturn, 1) := by decide +kernel
theorem dX0_gripOf_153 : decode cX0_gripOf 153 = .ok (.iload_n 3, 1) := by decide +kernel
theorem dX0_gripOf_154 : decode cX0_gripOf 154 = .ok (.ireturn, 1) := by decide +kernel
theorem dX0_asBrother_0 : decode cX0_asBrother 0 = .ok (.aload_n 0, 1) := by decide +kernel
theorem dX0_asBrother_1 : decode cX0_asBrother 1 = .ok (.getfield 9, 3) := by decide +kernel
theorem dX0_asBrother_4 : decode cX0_asBrother 4 = .ok (.iload_n 2, 1) := by decide +kernel
theorem dX0_asBrother_5 : decode cX0_asBrother 5 = .ok (.iaload, 1) := by decide +kernel
theorem dX0_asBrother_6 : decode cX0_asBrother 6 = .ok (.iconst 1, 1) := by decide +kernel
theorem dX0_asBrother_7 : decode cX0_asBrother 7 = .ok (.invokestatic 107, 3) := by decide +kernel
theorem dX0_asBrother_10 : decode cX0_asBrother 10 = .ok (.ifCond .eq 9, 3) := by decide +kernel
theorem dX0_asBrother_13 : decode cX0_asBrother 13 = .ok (.iconst 2, 1) := by decide +kernel
theorem dX0_asBrother_14 : decode cX0_asBrother 14 = .ok (.iload_n 1, 1) := by decide +kernel
theorem dX0_asBrother_15 : decode cX0_asBrother 15 = .ok (.imul, 1) := by decide +kernel
theorem dX0_asBrother_16 : decode cX0_asBrother 16 = .ok (.goto 4, 3) := by decide +kernel
theorem dX0_asBrother_19 : decode cX0_asBrother 19 = .ok (.iload_n 1, 1) := by decide +kernel
theorem dX0_asBrother_20 : decode cX0_asBrother 20 = .ok (.ireturn, 1) := by decide +kernel
theorem dX0_handedOn_0 : decode cX0_handedOn 0 = .ok (.aload_n 0, 1) := by decide +kernel
theorem dX0_handedOn_1 : decode cX0_handedOn 1 = .ok (.iload_n 1, 1) := by decide +kernel
theorem dX0_handedOn_2 : decode cX0_handedOn 2 = .ok (.invokevirtual 54, 3) := by decide +kernel
theorem dX0_handedOn_5 : decode cX0_handedOn 5 = .ok (.ifCond .ne 5, 3) := by decide +kernel
theorem dX0_handedOn_8 : decode cX0_handedOn 8 = .ok (.iconst 0, 1) := by decide +kernel
theorem dX0_handedOn_9 : decode cX0_handedOn 9 = .ok (.ireturn, 1) := by decide +kernel
theorem dX0_handedOn_10 : decode cX0_handedOn 10 = .ok (.iload_n 2, 1) := by decide +kernel
theorem dX0_handedOn_11 : decode cX0_handedOn 11 = .ok (.aload_n 0, 1) := by decide +kernel
theorem dX0_handedOn_12 : decode cX0_handedOn 12 = .ok (.getfield 24, 3) := by decide +kernel
theorem dX0_handedOn_15 : decode cX0_handedOn 15 = .ok (.iconst 1, 1) := by decide +kernel
theorem dX0_handedOn_16 : decode cX0_handedOn 16 = .ok (.aload_n 0, 1) := by decide +kernel
theorem dX0_handedOn_17 : decode cX0_handedOn 17 = .ok (.iload_n 1, 1) := by decide +kernel
theorem dX0_handedOn_18 : decode cX0_handedOn 18 = .ok (.iconst (-1), 1) := by decide +kernel
theorem dX0_handedOn_19 : decode cX0_handedOn 19 = .ok (.invokevirtual 95, 3) := by decide +kernel
theorem dX0_handedOn_22 : decode cX0_handedOn 22 = .ok (.invokestatic 101, 3) := by decide +kernel
theorem dX0_handedOn_25 : decode cX0_handedOn 25 = .ok (.isub, 1) := by decide +kernel
theorem dX0_handedOn_26 : decode cX0_handedOn 26 = .ok (.istore_n 3, 1) := by decide +kernel
theorem dX0_handedOn_27 : decode cX0_handedOn 27 = .ok (.aload_n 0, 1) := by decide +kernel
theorem dX0_handedOn_28 : decode cX0_handedOn 28 = .ok (.getfield 9, 3) := by decide +kernel
theorem dX0_handedOn_31 : decode cX0_handedOn 31 = .ok (.iload_n 1, 1) := by decide +kernel
theorem dX0_handedOn_32 : decode cX0_handedOn 32 = .ok (.iaload, 1) := by decide +kernel
theorem dX0_handedOn_33 : decode cX0_handedOn 33 = .ok (.tableswitch 89 1 5 #[35, 40, 47, 65, 81], 35) := by decide +kernel
theorem dX0_handedOn_68 : decode cX0_handedOn 68 = .ok (.iload_n 2, 1) := by decide +kernel
theorem dX0_handedOn_69 : decode cX0_handedOn 69 = .ok (.invokestatic 101, 3) := by decide +kernel
theorem dX0_handedOn_72 : decode cX0_handedOn 72 = .ok (.ireturn, 1) := by decide +kernel
theorem dX0_handedOn_73 : decode cX0_handedOn 73 = .ok (.iload_n 3, 1) := by decide +kernel
theorem dX0_handedOn_74 : decode cX0_handedOn 74 = .ok (.iconst 2, 1) := by decide +kernel
theorem dX0_handedOn_75 : decode cX0_handedOn 75 = .ok (.idiv, 1) := by decide +kernel
theorem dX0_handedOn_76 : decode cX0_handedOn 76 = .ok (.invokestatic 101, 3) := by decide +kernel
theorem dX0_handedOn_79 : decode cX0_handedOn 79 = .ok (.ireturn, 1) := by decide +kernel
theorem dX0_handedOn_80 : decode cX0_handedOn 80 = .ok (.aload_n 0, 1) := by decide +kernel
theorem dX0_handedOn_81 : decode cX0_handedOn 81 = .ok (.getfield 41, 3) := by decide +kernel
theorem dX0_handedOn_84 : decode cX0_handedOn 84 = .ok (.iconst 2, 1) := by decide +kernel
theorem dX0_handedOn_85 : decode cX0_handedOn 85 = .ok (.irem, 1) := by decide +kernel
theorem dX0_handedOn_86 : decode cX0_handedOn 86 = .ok (.ifCond .ne 7, 3) := by decide +kernel
theorem dX0_handedOn_89 : decode cX0_handedOn 89 = .ok (.iload_n 2, 1) := by decide +kernel
theorem dX0_handedOn_90 : decode cX0_handedOn 90 = .ok (.goto 4, 3) := by decide +kernel
theorem dX0_handedOn_93 : decode cX0_handedOn 93 = .ok (.iload_n 3, 1) := by decide +kernel
theorem dX0_handedOn_94 : decode cX0_handedOn 94 = .ok (.invokestatic 101, 3) := by decide +kernel
theorem dX0_handedOn_97 : decode cX0_handedOn 97 = .ok (.ireturn, 1) := by decide +kernel
theorem dX0_handedOn_98 : decode cX0_handedOn 98 = .ok (.iload_n 2, 1) := by decide +kernel
theorem dX0_handedOn_99 : decode cX0_handedOn 99 = .ok (.iconst 5, 1) := by decide +kernel
theorem dX0_handedOn_100 : decode cX0_handedOn 100 = .ok (.if_icmp .ge 7, 3) := by decide +kernel
theorem dX0_handedOn_103 : decode cX0_handedOn 103 = .ok (.iload_n 2, 1) := by decide +kernel
theorem dX0_handedOn_104 : decode cX0_handedOn 104 = .ok (.goto 6, 3) := by decide +kernel
theorem dX0_handedOn_107 : decode cX0_handedOn 107 = .ok (.iload_n 3, 1) := by decide +kernel
theorem dX0_handedOn_108 : decode cX0_handedOn 108 = .ok (.iconst 2, 1) := by decide +kernel
theorem dX0_handedOn_109 : decode cX0_handedOn 109 = .ok (.idiv, 1) := by decide +kernel
theorem dX0_handedOn_110 : decode cX0_handedOn 110 = .ok (.invokestatic 101, 3) := by decide +kernel
theorem dX0_handedOn_113 : decode cX0_handedOn 113 = .ok (.ireturn, 1) := by decide +kernel
theorem dX0_handedOn_114 : decode cX0_handedOn 114 = .ok (.iload_n 3, 1) := by decide +kernel
theorem dX0_handedOn_115 : decode cX0_handedOn 115 = .ok (.bipush 10, 2) := by decide +kernel
theorem dX0_handedOn_117 : decode cX0_handedOn 117 = .ok (.iadd, 1) := by decide +kernel
theorem dX0_handedOn_118 : decode cX0_handedOn 118 = .ok (.invokestatic 101, 3) := by decide +kernel
theorem dX0_handedOn_121 : decode cX0_handedOn 121 = .ok (.ireturn, 1) := by decide +kernel
theorem dX0_handedOn_122 : decode cX0_handedOn 122 = .ok (.iload_n 3, 1) := by decide +kernel
theorem dX0_handedOn_123 : decode cX0_handedOn 123 = .ok (.invokestatic 101, 3) := by decide +kernel
theorem dX0_handedOn_126 : decode cX0_handedOn 126 = .ok (.ireturn, 1) := by decide +kernel
theorem dX0_spentBy_0 : decode cX0_spentBy 0 = .ok (.aload_n 0, 1) := by decide +kernel
theorem dX0_spentBy_1 : decode cX0_spentBy 1 = .ok (.iload_n 1, 1) := by decide +kernel
theorem dX0_spentBy_2 : decode cX0_spentBy 2 = .ok (.invokevirtual 54, 3) := by decide +kernel
theorem dX0_spentBy_5 : decode cX0_spentBy 5 = .ok (.ifCond .ne 5, 3) := by decide +kernel
theorem dX0_spentBy_8 : decode cX0_spentBy 8 = .ok (.iconst 0, 1) := by decide +kernel
theorem dX0_spentBy_9 : decode cX0_spentBy 9 = .ok (.ireturn, 1) := by decide +kernel
theorem dX0_spentBy_10 : decode cX0_spentBy 10 = .ok (.aload_n 0, 1) := by decide +kernel
theorem dX0_spentBy_11 : decode cX0_spentBy 11 = .ok (.getfield 24, 3) := by decide +kernel
theorem dX0_spentBy_14 : decode cX0_spentBy 14 = .ok (.iconst 2, 1) := by decide +kernel
theorem dX0_spentBy_15 : decode cX0_spentBy 15 = .ok (.aload_n 0, 1) := by decide +kernel
theorem dX0_spentBy_16 : decode cX0_spentBy 16 = .ok (.iload_n 1, 1) := by decide +kernel
theorem dX0_spentBy_17 : decode cX0_spentBy 17 = .ok (.iconst (-1), 1) := by decide +kernel
theorem dX0_spentBy_18 : decode cX0_spentBy 18 = .ok (.invokevirtual 95, 3) := by decide +kernel
theorem dX0_spentBy_21 : decode cX0_spentBy 21 = .ok (.invokestatic 101, 3) := by decide +kernel
theorem dX0_spentBy_24 : decode cX0_spentBy 24 = .ok (.istore_n 2, 1) := by decide +kernel
theorem dX0_spentBy_25 : decode cX0_spentBy 25 = .ok (.aload_n 0, 1) := by decide +kernel
theorem dX0_spentBy_26 : decode cX0_spentBy 26 = .ok (.getfield 9, 3) := by decide +kernel
theorem dX0_spentBy_29 : decode cX0_spentBy 29 = .ok (.iload_n 1, 1) := by decide +kernel
theorem dX0_spentBy_30 : decode cX0_spentBy 30 = .ok (.iaload, 1) := by decide +kernel
theorem dX0_spentBy_31 : decode cX0_spentBy 31 = .ok (.tableswitch 66 1 5 #[33, 37, 33, 44, 64], 33) := by decide +kernel
theorem dX0_spentBy_64 : decode cX0_spentBy 64 = .ok (.iload_n 2, 1) := by decide +kernel
theorem dX0_spentBy_65 : decode cX0_spentBy 65 = .ok (.iconst 2, 1) := by decide +kernel
theorem dX0_spentBy_66 : decode cX0_spentBy 66 = .ok (.idiv, 1) := by decide +kernel
theorem dX0_spentBy_67 : decode cX0_spentBy 67 = .ok (.ireturn, 1) := by decide +kernel
theorem dX0_spentBy_68 : decode cX0_spentBy 68 = .ok (.iload_n 2, 1) := by decide +kernel
theorem dX0_spentBy_69 : decode cX0_spentBy 69 = .ok (.iconst 1, 1) := by decide +kernel
theorem dX0_spentBy_70 : decode cX0_spentBy 70 = .ok (.iadd, 1) := by decide +kernel
theorem dX0_spentBy_71 : decode cX0_spentBy 71 = .ok (.invokestatic 101, 3) := by decide +kernel
theorem dX0_spentBy_74 : decode cX0_spentBy 74 = .ok (.ireturn, 1) := by decide +kernel
theorem dX0_spentBy_75 : decode cX0_spentBy 75 = .ok (.aload_n 0, 1) := by decide +kernel
theorem dX0_spentBy_76 : decode cX0_spentBy 76 = .ok (.getfield 44, 3) := by decide +kernel
theorem dX0_spentBy_79 : decode cX0_spentBy 79 = .ok (.bipush 20, 2) := by decide +kernel
theorem dX0_spentBy_81 : decode cX0_spentBy 81 = .ok (.if_icmp .le 12, 3) := by decide +kernel
theorem dX0_spentBy_84 : decode cX0_spentBy 84 = .ok (.iload_n 2, 1) := by decide +kernel
theorem dX0_spentBy_85 : decode cX0_spentBy 85 = .ok (.iconst 1, 1) := by decide +kernel
theorem dX0_spentBy_86 : decode cX0_spentBy 86 = .ok (.iadd, 1) := by decide +kernel
theorem dX0_spentBy_87 : decode cX0_spentBy 87 = .ok (.invokestatic 101, 3) := by decide +kernel
theorem dX0_spentBy_90 : decode cX0_spentBy 90 = .ok (.goto 4, 3) := by decide +kernel
theorem dX0_spentBy_93 : decode cX0_spentBy 93 = .ok (.iconst 0, 1) := by decide +kernel
theorem dX0_spentBy_94 : decode cX0_spentBy 94 = .ok (.ireturn, 1) := by decide +kernel
theorem dX0_spentBy_95 : decode cX0_spentBy 95 = .ok (.iconst 0, 1) := by decide +kernel
theorem dX0_spentBy_96 : decode cX0_spentBy 96 = .ok (.ireturn, 1) := by decide +kernel
theorem dX0_spentBy_97 : decode cX0_spentBy 97 = .ok (.iload_n 2, 1) := by decide +kernel
theorem dX0_spentBy_98 : decode cX0_spentBy 98 = .ok (.ireturn, 1) := by decide +kernel
theorem dX0_named_0 : decode cX0_named 0 = .ok (.iload_n 1, 1) := by decide +kernel
theorem dX0_named_1 : decode cX0_named 1 = .ok (.tableswitch 108 0 4 #[35, 56, 77, 98, 103], 35) := by decide +kernel
theorem dX0_named_36 : decode cX0_named 36 = .ok (.iload_n 2, 1) := by decide +kernel
theorem dX0_named_37 : decode cX0_named 37 = .ok (.ifCond .lt 18, 3) := by decide +kernel
theorem dX0_named_40 : decode cX0_named 40 = .ok (.iload_n 2, 1) := by decide +kernel
theorem dX0_named_41 : decode cX0_named 41 = .ok (.bipush 6, 2) := by decide +kernel
theorem dX0_named_43 : decode cX0_named 43 = .ok (.if_icmp .ge 12, 3) := by decide +kernel
theorem dX0_named_46 : decode cX0_named 46 = .ok (.aload_n 0, 1) := by decide +kernel
theorem dX0_named_47 : decode cX0_named 47 = .ok (.getfield 18, 3) := by decide +kernel
theorem dX0_named_50 : decode cX0_named 50 = .ok (.iload_n 2, 1) := by decide +kernel
theorem dX0_named_51 : decode cX0_named 51 = .ok (.iaload, 1) := by decide +kernel
theorem dX0_named_52 : decode cX0_named 52 = .ok (.goto 4, 3) := by decide +kernel
theorem dX0_named_55 : decode cX0_named 55 = .ok (.iconst 0, 1) := by decide +kernel
theorem dX0_named_56 : decode cX0_named 56 = .ok (.ireturn, 1) := by decide +kernel
theorem dX0_named_57 : decode cX0_named 57 = .ok (.iload_n 3, 1) := by decide +kernel
theorem dX0_named_58 : decode cX0_named 58 = .ok (.ifCond .lt 18, 3) := by decide +kernel
theorem dX0_named_61 : decode cX0_named 61 = .ok (.iload_n 3, 1) := by decide +kernel
theorem dX0_named_62 : decode cX0_named 62 = .ok (.bipush 6, 2) := by decide +kernel
theorem dX0_named_64 : decode cX0_named 64 = .ok (.if_icmp .ge 12, 3) := by decide +kernel
theorem dX0_named_67 : decode cX0_named 67 = .ok (.aload_n 0, 1) := by decide +kernel
theorem dX0_named_68 : decode cX0_named 68 = .ok (.getfield 18, 3) := by decide +kernel
theorem dX0_named_71 : decode cX0_named 71 = .ok (.iload_n 3, 1) := by decide +kernel
theorem dX0_named_72 : decode cX0_named 72 = .ok (.iaload, 1) := by decide +kernel
theorem dX0_named_73 : decode cX0_named 73 = .ok (.goto 4, 3) := by decide +kernel
theorem dX0_named_76 : decode cX0_named 76 = .ok (.iconst 0, 1) := by decide +kernel
theorem dX0_named_77 : decode cX0_named 77 = .ok (.ireturn, 1) := by decide +kernel
theorem dX0_named_78 : decode cX0_named 78 = .ok (.iload_n 2, 1) := by decide +kernel
theorem dX0_named_79 : decode cX0_named 79 = .ok (.ifCond .lt 18, 3) := by decide +kernel
theorem dX0_named_82 : decode cX0_named 82 = .ok (.iload_n 2, 1) := by decide +kernel
theorem dX0_named_83 : decode cX0_named 83 = .ok (.bipush 6, 2) := by decide +kernel
theorem dX0_named_85 : decode cX0_named 85 = .ok (.if_icmp .ge 12, 3) := by decide +kernel
theorem dX0_named_88 : decode cX0_named 88 = .ok (.aload_n 0, 1) := by decide +kernel
theorem dX0_named_89 : decode cX0_named 89 = .ok (.getfield 15, 3) := by decide +kernel
theorem dX0_named_92 : decode cX0_named 92 = .ok (.iload_n 2, 1) := by decide +kernel
theorem dX0_named_93 : decode cX0_named 93 = .ok (.iaload, 1) := by decide +kernel
theorem dX0_named_94 : decode cX0_named 94 = .ok (.goto 4, 3) := by decide +kernel
theorem dX0_named_97 : decode cX0_named 97 = .ok (.iconst 0, 1) := by decide +kernel
theorem dX0_named_98 : decode cX0_named 98 = .ok (.ireturn, 1) := by decide +kernel
theorem dX0_named_99 : decode cX0_named 99 = .ok (.aload_n 0, 1) := by decide +kernel
theorem dX0_named_100 : decode cX0_named 100 = .ok (.getfield 41, 3) := by decide +kernel
theorem dX0_named_103 : decode cX0_named 103 = .ok (.ireturn, 1) := by decide +kernel
theorem dX0_named_104 : decode cX0_named 104 = .ok (.aload_n 0, 1) := by decide +kernel
theorem dX0_named_105 : decode cX0_named 105 = .ok (.getfield 44, 3) := by decide +kernel
theorem dX0_named_108 : decode cX0_named 108 = .ok (.ireturn, 1) := by decide +kernel
theorem dX0_named_109 : decode cX0_named 109 = .ok (.aload_n 0, 1) := by decide +kernel
theorem dX0_named_110 : decode cX0_named 110 = .ok (.getfield 38, 3) := by decide +kernel
theorem dX0_named_113 : decode cX0_named 113 = .ok (.ireturn, 1) := by decide +kernel
