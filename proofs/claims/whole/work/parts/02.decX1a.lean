theorem dX1_init_0 : decode cX1_init 0 = .ok (.aload_n 0, 1) := by decide +kernel
theorem dX1_init_1 : decode cX1_init 1 = .ok (.invokespecial 3, 3) := by decide +kernel
theorem dX1_init_4 : decode cX1_init 4 = .ok (.aload_n 0, 1) := by decide +kernel
theorem dX1_init_5 : decode cX1_init 5 = .ok (.bipush 36, 2) := by decide +kernel
theorem dX1_init_7 : decode cX1_init 7 = .ok (.newarray .int, 2) := by decide +kernel
theorem dX1_init_9 : decode cX1_init 9 = .ok (.putfield 9, 3) := by decide +kernel
theorem dX1_init_12 : decode cX1_init 12 = .ok (.aload_n 0, 1) := by decide +kernel
theorem dX1_init_13 : decode cX1_init 13 = .ok (.bipush 6, 2) := by decide +kernel
theorem dX1_init_15 : decode cX1_init 15 = .ok (.newarray .int, 2) := by decide +kernel
theorem dX1_init_17 : decode cX1_init 17 = .ok (.putfield 15, 3) := by decide +kernel
theorem dX1_init_20 : decode cX1_init 20 = .ok (.aload_n 0, 1) := by decide +kernel
theorem dX1_init_21 : decode cX1_init 21 = .ok (.bipush 6, 2) := by decide +kernel
theorem dX1_init_23 : decode cX1_init 23 = .ok (.newarray .int, 2) := by decide +kernel
theorem dX1_init_25 : decode cX1_init 25 = .ok (.putfield 18, 3) := by decide +kernel
theorem dX1_init_28 : decode cX1_init 28 = .ok (.aload_n 0, 1) := by decide +kernel
theorem dX1_init_29 : decode cX1_init 29 = .ok (.bipush 6, 2) := by decide +kernel
theorem dX1_init_31 : decode cX1_init 31 = .ok (.newarray .int, 2) := by decide +kernel
theorem dX1_init_33 : decode cX1_init 33 = .ok (.putfield 21, 3) := by decide +kernel
theorem dX1_init_36 : decode cX1_init 36 = .ok (.return_, 1) := by decide +kernel
theorem dX1_look_0 : decode cX1_look 0 = .ok (.aload_n 0, 1) := by decide +kernel
theorem dX1_look_1 : decode cX1_look 1 = .ok (.aload_n 1, 1) := by decide +kernel
theorem dX1_look_2 : decode cX1_look 2 = .ok (.getfield 24, 3) := by decide +kernel
theorem dX1_look_5 : decode cX1_look 5 = .ok (.bipush 6, 2) := by decide +kernel
theorem dX1_look_7 : decode cX1_look 7 = .ok (.invokestatic 30, 3) := by decide +kernel
theorem dX1_look_10 : decode cX1_look 10 = .ok (.putfield 36, 3) := by decide +kernel
theorem dX1_look_13 : decode cX1_look 13 = .ok (.aload_n 1, 1) := by decide +kernel
theorem dX1_look_14 : decode cX1_look 14 = .ok (.getfield 37, 3) := by decide +kernel
theorem dX1_look_17 : decode cX1_look 17 = .ok (.iconst 0, 1) := by decide +kernel
theorem dX1_look_18 : decode cX1_look 18 = .ok (.aload_n 0, 1) := by decide +kernel
theorem dX1_look_19 : decode cX1_look 19 = .ok (.getfield 18, 3) := by decide +kernel
theorem dX1_look_22 : decode cX1_look 22 = .ok (.iconst 0, 1) := by decide +kernel
theorem dX1_look_23 : decode cX1_look 23 = .ok (.bipush 6, 2) := by decide +kernel
theorem dX1_look_25 : decode cX1_look 25 = .ok (.invokestatic 38, 3) := by decide +kernel
theorem dX1_look_28 : decode cX1_look 28 = .ok (.aload_n 1, 1) := by decide +kernel
theorem dX1_look_29 : decode cX1_look 29 = .ok (.getfield 37, 3) := by decide +kernel
theorem dX1_look_32 : decode cX1_look 32 = .ok (.iconst 0, 1) := by decide +kernel
theorem dX1_look_33 : decode cX1_look 33 = .ok (.aload_n 0, 1) := by decide +kernel
theorem dX1_look_34 : decode cX1_look 34 = .ok (.getfield 15, 3) := by decide +kernel
theorem dX1_look_37 : decode cX1_look 37 = .ok (.iconst 0, 1) := by decide +kernel
theorem dX1_look_38 : decode cX1_look 38 = .ok (.bipush 6, 2) := by decide +kernel
theorem dX1_look_40 : decode cX1_look 40 = .ok (.invokestatic 38, 3) := by decide +kernel
theorem dX1_look_43 : decode cX1_look 43 = .ok (.iconst 0, 1) := by decide +kernel
theorem dX1_look_44 : decode cX1_look 44 = .ok (.istore_n 2, 1) := by decide +kernel
theorem dX1_look_45 : decode cX1_look 45 = .ok (.iload_n 2, 1) := by decide +kernel
theorem dX1_look_46 : decode cX1_look 46 = .ok (.bipush 6, 2) := by decide +kernel
theorem dX1_look_48 : decode cX1_look 48 = .ok (.if_icmp .ge 65, 3) := by decide +kernel
theorem dX1_look_51 : decode cX1_look 51 = .ok (.iconst 0, 1) := by decide +kernel
theorem dX1_look_52 : decode cX1_look 52 = .ok (.istore_n 3, 1) := by decide +kernel
theorem dX1_look_53 : decode cX1_look 53 = .ok (.iload_n 3, 1) := by decide +kernel
theorem dX1_look_54 : decode cX1_look 54 = .ok (.iload_n 2, 1) := by decide +kernel
theorem dX1_look_55 : decode cX1_look 55 = .ok (.if_icmp .ge 52, 3) := by decide +kernel
theorem dX1_look_58 : decode cX1_look 58 = .ok (.aload_n 1, 1) := by decide +kernel
theorem dX1_look_59 : decode cX1_look 59 = .ok (.iload_n 2, 1) := by decide +kernel
theorem dX1_look_60 : decode cX1_look 60 = .ok (.iload_n 3, 1) := by decide +kernel
theorem dX1_look_61 : decode cX1_look 61 = .ok (.invokevirtual 44, 3) := by decide +kernel
theorem dX1_look_64 : decode cX1_look 64 = .ok (.aload_n 1, 1) := by decide +kernel
theorem dX1_look_65 : decode cX1_look 65 = .ok (.iload_n 3, 1) := by decide +kernel
theorem dX1_look_66 : decode cX1_look 66 = .ok (.iload_n 2, 1) := by decide +kernel
theorem dX1_look_67 : decode cX1_look 67 = .ok (.invokevirtual 44, 3) := by decide +kernel
theorem dX1_look_70 : decode cX1_look 70 = .ok (.invokestatic 30, 3) := by decide +kernel
theorem dX1_look_73 : decode cX1_look 73 = .ok (.istore 4, 2) := by decide +kernel
theorem dX1_look_75 : decode cX1_look 75 = .ok (.aload_n 0, 1) := by decide +kernel
theorem dX1_look_76 : decode cX1_look 76 = .ok (.getfield 9, 3) := by decide +kernel
theorem dX1_look_79 : decode cX1_look 79 = .ok (.iload_n 2, 1) := by decide +kernel
theorem dX1_look_80 : decode cX1_look 80 = .ok (.bipush 6, 2) := by decide +kernel
theorem dX1_look_82 : decode cX1_look 82 = .ok (.imul, 1) := by decide +kernel
theorem dX1_look_83 : decode cX1_look 83 = .ok (.iload_n 3, 1) := by decide +kernel
theorem dX1_look_84 : decode cX1_look 84 = .ok (.iadd, 1) := by decide +kernel
theorem dX1_look_85 : decode cX1_look 85 = .ok (.iload 4, 2) := by decide +kernel
theorem dX1_look_87 : decode cX1_look 87 = .ok (.iastore, 1) := by decide +kernel
theorem dX1_look_88 : decode cX1_look 88 = .ok (.aload_n 0, 1) := by decide +kernel
theorem dX1_look_89 : decode cX1_look 89 = .ok (.getfield 9, 3) := by decide +kernel
theorem dX1_look_92 : decode cX1_look 92 = .ok (.iload_n 3, 1) := by decide +kernel
theorem dX1_look_93 : decode cX1_look 93 = .ok (.bipush 6, 2) := by decide +kernel
theorem dX1_look_95 : decode cX1_look 95 = .ok (.imul, 1) := by decide +kernel
theorem dX1_look_96 : decode cX1_look 96 = .ok (.iload_n 2, 1) := by decide +kernel
theorem dX1_look_97 : decode cX1_look 97 = .ok (.iadd, 1) := by decide +kernel
theorem dX1_look_98 : decode cX1_look 98 = .ok (.iload 4, 2) := by decide +kernel
theorem dX1_look_100 : decode cX1_look 100 = .ok (.iastore, 1) := by decide +kernel
theorem dX1_look_101 : decode cX1_look 101 = .ok (.iinc 3 1, 3) := by decide +kernel
theorem dX1_look_104 : decode cX1_look 104 = .ok (.goto (-51), 3) := by decide +kernel
theorem dX1_look_107 : decode cX1_look 107 = .ok (.iinc 2 1, 3) := by decide +kernel
theorem dX1_look_110 : decode cX1_look 110 = .ok (.goto (-65), 3) := by decide +kernel
theorem dX1_look_113 : decode cX1_look 113 = .ok (.return_, 1) := by decide +kernel
theorem dX1_between_0 : decode cX1_between 0 = .ok (.iload_n 1, 1) := by decide +kernel
theorem dX1_between_1 : decode cX1_between 1 = .ok (.ifCond .lt 23, 3) := by decide +kernel
theorem dX1_between_4 : decode cX1_between 4 = .ok (.iload_n 1, 1) := by decide +kernel
theorem dX1_between_5 : decode cX1_between 5 = .ok (.bipush 6, 2) := by decide +kernel
theorem dX1_between_7 : decode cX1_between 7 = .ok (.if_icmp .ge 17, 3) := by decide +kernel
theorem dX1_between_10 : decode cX1_between 10 = .ok (.iload_n 2, 1) := by decide +kernel
theorem dX1_between_11 : decode cX1_between 11 = .ok (.ifCond .lt 13, 3) := by decide +kernel
theorem dX1_between_14 : decode cX1_between 14 = .ok (.iload_n 2, 1) := by decide +kernel
theorem dX1_between_15 : decode cX1_between 15 = .ok (.bipush 6, 2) := by decide +kernel
theorem dX1_between_17 : decode cX1_between 17 = .ok (.if_icmp .ge 7, 3) := by decide +kernel
theorem dX1_between_20 : decode cX1_between 20 = .ok (.iconst 1, 1) := by decide +kernel
theorem dX1_between_21 : decode cX1_between 21 = .ok (.goto 4, 3) := by decide +kernel
theorem dX1_between_24 : decode cX1_between 24 = .ok (.iconst 0, 1) := by decide +kernel
theorem dX1_between_25 : decode cX1_between 25 = .ok (.istore_n 3, 1) := by decide +kernel
theorem dX1_between_26 : decode cX1_between 26 = .ok (.iload_n 3, 1) := by decide +kernel
theorem dX1_between_27 : decode cX1_between 27 = .ok (.ifCond .eq 17, 3) := by decide +kernel
theorem dX1_between_30 : decode cX1_between 30 = .ok (.aload_n 0, 1) := by decide +kernel
theorem dX1_between_31 : decode cX1_between 31 = .ok (.getfield 9, 3) := by decide +kernel
theorem dX1_between_34 : decode cX1_between 34 = .ok (.iload_n 1, 1) := by decide +kernel
theorem dX1_between_35 : decode cX1_between 35 = .ok (.bipush 6, 2) := by decide +kernel
theorem dX1_between_37 : decode cX1_between 37 = .ok (.imul, 1) := by decide +kernel
theorem dX1_between_38 : decode cX1_between 38 = .ok (.iload_n 2, 1) := by decide +kernel
theorem dX1_between_39 : decode cX1_between 39 = .ok (.iadd, 1) := by decide +kernel
theorem dX1_between_40 : decode cX1_between 40 = .ok (.iaload, 1) := by decide +kernel
theorem dX1_between_41 : decode cX1_between 41 = .ok (.goto 4, 3) := by decide +kernel
theorem dX1_between_44 : decode cX1_between 44 = .ok (.iconst 0, 1) := by decide +kernel
theorem dX1_between_45 : decode cX1_between 45 = .ok (.ireturn, 1) := by decide +kernel
theorem dX1_weakestNow_0 : decode cX1_weakestNow 0 = .ok (.aload_n 0, 1) := by decide +kernel
theorem dX1_weakestNow_1 : decode cX1_weakestNow 1 = .ok (.getfield 36, 3) := by decide +kernel
theorem dX1_weakestNow_4 : decode cX1_weakestNow 4 = .ok (.iconst 2, 1) := by decide +kernel
theorem dX1_weakestNow_5 : decode cX1_weakestNow 5 = .ok (.if_icmp .ge 5, 3) := by decide +kernel
theorem dX1_weakestNow_8 : decode cX1_weakestNow 8 = .ok (.iconst (-1), 1) := by decide +kernel
theorem dX1_weakestNow_9 : decode cX1_weakestNow 9 = .ok (.ireturn, 1) := by decide +kernel
theorem dX1_weakestNow_10 : decode cX1_weakestNow 10 = .ok (.aload_n 0, 1) := by decide +kernel
theorem dX1_weakestNow_11 : decode cX1_weakestNow 11 = .ok (.aload_n 0, 1) := by decide +kernel
theorem dX1_weakestNow_12 : decode cX1_weakestNow 12 = .ok (.getfield 15, 3) := by decide +kernel
theorem dX1_weakestNow_15 : decode cX1_weakestNow 15 = .ok (.aload_n 0, 1) := by decide +kernel
theorem dX1_weakestNow_16 : decode cX1_weakestNow 16 = .ok (.getfield 36, 3) := by decide +kernel
theorem dX1_weakestNow_19 : decode cX1_weakestNow 19 = .ok (.iconst 1, 1) := by decide +kernel
theorem dX1_weakestNow_20 : decode cX1_weakestNow 20 = .ok (.isub, 1) := by decide +kernel
theorem dX1_weakestNow_21 : decode cX1_weakestNow 21 = .ok (.iaload, 1) := by decide +kernel
theorem dX1_weakestNow_22 : decode cX1_weakestNow 22 = .ok (.aload_n 0, 1) := by decide +kernel
theorem dX1_weakestNow_23 : decode cX1_weakestNow 23 = .ok (.getfield 15, 3) := by decide +kernel
theorem dX1_weakestNow_26 : decode cX1_weakestNow 26 = .ok (.iconst 0, 1) := by decide +kernel
theorem dX1_weakestNow_27 : decode cX1_weakestNow 27 = .ok (.iaload, 1) := by decide +kernel
theorem dX1_weakestNow_28 : decode cX1_weakestNow 28 = .ok (.invokevirtual 47, 3) := by decide +kernel
theorem dX1_weakestNow_31 : decode cX1_weakestNow 31 = .ok (.istore_n 1, 1) := by decide +kernel
theorem dX1_weakestNow_32 : decode cX1_weakestNow 32 = .ok (.iconst 1, 1) := by decide +kernel
theorem dX1_weakestNow_33 : decode cX1_weakestNow 33 = .ok (.istore_n 2, 1) := by decide +kernel
theorem dX1_weakestNow_34 : decode cX1_weakestNow 34 = .ok (.iload_n 2, 1) := by decide +kernel
theorem dX1_weakestNow_35 : decode cX1_weakestNow 35 = .ok (.aload_n 0, 1) := by decide +kernel
theorem dX1_weakestNow_36 : decode cX1_weakestNow 36 = .ok (.getfield 36, 3) := by decide +kernel
theorem dX1_weakestNow_39 : decode cX1_weakestNow 39 = .ok (.if_icmp .ge 32, 3) := by decide +kernel
theorem dX1_weakestNow_42 : decode cX1_weakestNow 42 = .ok (.iload_n 1, 1) := by decide +kernel
theorem dX1_weakestNow_43 : decode cX1_weakestNow 43 = .ok (.aload_n 0, 1) := by decide +kernel
theorem dX1_weakestNow_44 : decode cX1_weakestNow 44 = .ok (.aload_n 0, 1) := by decide +kernel
theorem dX1_weakestNow_45 : decode cX1_weakestNow 45 = .ok (.getfield 15, 3) := by decide +kernel
theorem dX1_weakestNow_48 : decode cX1_weakestNow 48 = .ok (.iload_n 2, 1) := by decide +kernel
theorem dX1_weakestNow_49 : decode cX1_weakestNow 49 = .ok (.iconst 1, 1) := by decide +kernel
theorem dX1_weakestNow_50 : decode cX1_weakestNow 50 = .ok (.isub, 1) := by decide +kernel
theorem dX1_weakestNow_51 : decode cX1_weakestNow 51 = .ok (.iaload, 1) := by decide +kernel
theorem dX1_weakestNow_52 : decode cX1_weakestNow 52 = .ok (.aload_n 0, 1) := by decide +kernel
theorem dX1_weakestNow_53 : decode cX1_weakestNow 53 = .ok (.getfield 15, 3) := by decide +kernel
theorem dX1_weakestNow_56 : decode cX1_weakestNow 56 = .ok (.iload_n 2, 1) := by decide +kernel
theorem dX1_weakestNow_57 : decode cX1_weakestNow 57 = .ok (.iaload, 1) := by decide +kernel
theorem dX1_weakestNow_58 : decode cX1_weakestNow 58 = .ok (.invokevirtual 47, 3) := by decide +kernel
theorem dX1_weakestNow_61 : decode cX1_weakestNow 61 = .ok (.invokestatic 30, 3) := by decide +kernel
theorem dX1_weakestNow_64 : decode cX1_weakestNow 64 = .ok (.istore_n 1, 1) := by decide +kernel
theorem dX1_weakestNow_65 : decode cX1_weakestNow 65 = .ok (.iinc 2 1, 3) := by decide +kernel
theorem dX1_weakestNow_68 : decode cX1_weakestNow 68 = .ok (.goto (-34), 3) := by decide +kernel
theorem dX1_weakestNow_71 : decode cX1_weakestNow 71 = .ok (.iload_n 1, 1) := by decide +kernel
theorem dX1_weakestNow_72 : decode cX1_weakestNow 72 = .ok (.ireturn, 1) := by decide +kernel
theorem dX1_change_0 : decode cX1_change 0 = .ok (.iload_n 1, 1) := by decide +kernel
theorem dX1_change_1 : decode cX1_change 1 = .ok (.ifCond .lt 49, 3) := by decide +kernel
theorem dX1_change_4 : decode cX1_change 4 = .ok (.iload_n 1, 1) := by decide +kernel
theorem dX1_change_5 : decode cX1_change 5 = .ok (.aload_n 0, 1) := by decide +kernel
theorem dX1_change_6 : decode cX1_change 6 = .ok (.getfield 36, 3) := by decide +kernel
theorem dX1_change_9 : decode cX1_change 9 = .ok (.if_icmp .ge 41, 3) := by decide +kernel
theorem dX1_change_12 : decode cX1_change 12 = .ok (.iload_n 2, 1) := by decide +kernel
theorem dX1_change_13 : decode cX1_change 13 = .ok (.ifCond .lt 37, 3) := by decide +kernel
theorem dX1_change_16 : decode cX1_change 16 = .ok (.iload_n 2, 1) := by decide +kernel
theorem dX1_change_17 : decode cX1_change 17 = .ok (.aload_n 0, 1) := by decide +kernel
theorem dX1_change_18 : decode cX1_change 18 = .ok (.getfield 36, 3) := by decide +kernel
theorem dX1_change_21 : decode cX1_change 21 = .ok (.if_icmp .ge 29, 3) := by decide +kernel
theorem dX1_change_24 : decode cX1_change 24 = .ok (.aload_n 0, 1) := by decide +kernel
theorem dX1_change_25 : decode cX1_change 25 = .ok (.getfield 15, 3) := by decide +kernel
theorem dX1_change_28 : decode cX1_change 28 = .ok (.iload_n 1, 1) := by decide +kernel
theorem dX1_change_29 : decode cX1_change 29 = .ok (.iaload, 1) := by decide +kernel
theorem dX1_change_30 : decode cX1_change 30 = .ok (.istore_n 3, 1) := by decide +kernel
theorem dX1_change_31 : decode cX1_change 31 = .ok (.aload_n 0, 1) := by decide +kernel
theorem dX1_change_32 : decode cX1_change 32 = .ok (.getfield 15, 3) := by decide +kernel
theorem dX1_change_35 : decode cX1_change 35 = .ok (.iload_n 1, 1) := by decide +kernel
theorem dX1_change_36 : decode cX1_change 36 = .ok (.aload_n 0, 1) := by decide +kernel
theorem dX1_change_37 : decode cX1_change 37 = .ok (.getfield 15, 3) := by decide +kernel
theorem dX1_change_40 : decode cX1_change 40 = .ok (.iload_n 2, 1) := by decide +kernel
theorem dX1_change_41 : decode cX1_change 41 = .ok (.iaload, 1) := by decide +kernel
theorem dX1_change_42 : decode cX1_change 42 = .ok (.iastore, 1) := by decide +kernel
theorem dX1_change_43 : decode cX1_change 43 = .ok (.aload_n 0, 1) := by decide +kernel
theorem dX1_change_44 : decode cX1_change 44 = .ok (.getfield 15, 3) := by decide +kernel
theorem dX1_change_47 : decode cX1_change 47 = .ok (.iload_n 2, 1) := by decide +kernel
theorem dX1_change_48 : decode cX1_change 48 = .ok (.iload_n 3, 1) := by decide +kernel
theorem dX1_change_49 : decode cX1_change 49 = .ok (.iastore, 1) := by decide +kernel
theorem dX1_change_50 : decode cX1_change 50 = .ok (.return_, 1) := by decide +kernel
theorem dX1_seekBest_0 : decode cX1_seekBest 0 = .ok (.aload_n 0, 1) := by decide +kernel
theorem dX1_seekBest_1 : decode cX1_seekBest 1 = .ok (.iconst (-1), 1) := by decide +kernel
theorem dX1_seekBest_2 : decode cX1_seekBest 2 = .ok (.putfield 50, 3) := by decide +kernel
theorem dX1_seekBest_5 : decode cX1_seekBest 5 = .ok (.aload_n 0, 1) := by decide +kernel
theorem dX1_seekBest_6 : decode cX1_seekBest 6 = .ok (.getfield 15, 3) := by decide +kernel
theorem dX1_seekBest_9 : decode cX1_seekBest 9 = .ok (.iconst 0, 1) := by decide +kernel
theorem dX1_seekBest_10 : decode cX1_seekBest 10 = .ok (.aload_n 0, 1) := by decide +kernel
theorem dX1_seekBest_11 : decode cX1_seekBest 11 = .ok (.getfield 21, 3) := by decide +kernel
theorem dX1_seekBest_14 : decode cX1_seekBest 14 = .ok (.iconst 0, 1) := by decide +kernel
theorem dX1_seekBest_15 : decode cX1_seekBest 15 = .ok (.bipush 6, 2) := by decide +kernel
theorem dX1_seekBest_17 : decode cX1_seekBest 17 = .ok (.invokestatic 38, 3) := by decide +kernel
theorem dX1_seekBest_20 : decode cX1_seekBest 20 = .ok (.iconst 0, 1) := by decide +kernel
theorem dX1_seekBest_21 : decode cX1_seekBest 21 = .ok (.istore_n 1, 1) := by decide +kernel
theorem dX1_seekBest_22 : decode cX1_seekBest 22 = .ok (.iconst 1, 1) := by decide +kernel
theorem dX1_seekBest_23 : decode cX1_seekBest 23 = .ok (.istore_n 2, 1) := by decide +kernel
theorem dX1_seekBest_24 : decode cX1_seekBest 24 = .ok (.iload_n 2, 1) := by decide +kernel
theorem dX1_seekBest_25 : decode cX1_seekBest 25 = .ok (.aload_n 0, 1) := by decide +kernel
theorem dX1_seekBest_26 : decode cX1_seekBest 26 = .ok (.getfield 36, 3) := by decide +kernel
theorem dX1_seekBest_29 : decode cX1_seekBest 29 = .ok (.if_icmp .ge 20, 3) := by decide +kernel
theorem dX1_seekBest_32 : decode cX1_seekBest 32 = .ok (.iload_n 1, 1) := by decide +kernel
theorem dX1_seekBest_33 : decode cX1_seekBest 33 = .ok (.iconst 1, 1) := by decide +kernel
theorem dX1_seekBest_34 : decode cX1_seekBest 34 = .ok (.aload_n 0, 1) := by decide +kernel
theorem dX1_seekBest_35 : decode cX1_seekBest 35 = .ok (.getfield 15, 3) := by decide +kernel
theorem dX1_seekBest_38 : decode cX1_seekBest 38 = .ok (.iload_n 2, 1) := by decide +kernel
theorem dX1_seekBest_39 : decode cX1_seekBest 39 = .ok (.iaload, 1) := by decide +kernel
theorem dX1_seekBest_40 : decode cX1_seekBest 40 = .ok (.ishl, 1) := by decide +kernel
theorem dX1_seekBest_41 : decode cX1_seekBest 41 = .ok (.ior, 1) := by decide +kernel
theorem dX1_seekBest_42 : decode cX1_seekBest 42 = .ok (.istore_n 1, 1) := by decide +kernel
theorem dX1_seekBest_43 : decode cX1_seekBest 43 = .ok (.iinc 2 1, 3) := by decide +kernel
theorem dX1_seekBest_46 : decode cX1_seekBest 46 = .ok (.goto (-22), 3) := by decide +kernel
theorem dX1_seekBest_49 : decode cX1_seekBest 49 = .ok (.aload_n 0, 1) := by decide +kernel
theorem dX1_seekBest_50 : decode cX1_seekBest 50 = .ok (.getfield 36, 3) := by decide +kernel
theorem dX1_seekBest_53 : decode cX1_seekBest 53 = .ok (.iconst 1, 1) := by decide +kernel
theorem dX1_seekBest_54 : decode cX1_seekBest 54 = .ok (.if_icmp .le 11, 3) := by decide +kernel
theorem dX1_seekBest_57 : decode cX1_seekBest 57 = .ok (.aload_n 0, 1) := by decide +kernel
theorem dX1_seekBest_58 : decode cX1_seekBest 58 = .ok (.iconst 1, 1) := by decide +kernel
theorem dX1_seekBest_59 : decode cX1_seekBest 59 = .ok (.iload_n 1, 1) := by decide +kernel
theorem dX1_seekBest_60 : decode cX1_seekBest 60 = .ok (.bipush 99, 2) := by decide +kernel
theorem dX1_seekBest_62 : decode cX1_seekBest 62 = .ok (.invokevirtual 53, 3) := by decide +kernel
theorem dX1_seekBest_65 : decode cX1_seekBest 65 = .ok (.return_, 1) := by decide +kernel
theorem dX1_seekFrom_0 : decode cX1_seekFrom 0 = .ok (.iload_n 3, 1) := by decide +kernel
theorem dX1_seekFrom_1 : decode cX1_seekFrom 1 = .ok (.aload_n 0, 1) := by decide +kernel
theorem dX1_seekFrom_2 : decode cX1_seekFrom 2 = .ok (.getfield 50, 3) := by decide +kernel
theorem dX1_seekFrom_5 : decode cX1_seekFrom 5 = .ok (.if_icmp .gt 4, 3) := by decide +kernel
theorem dX1_seekFrom_8 : decode cX1_seekFrom 8 = .ok (.return_, 1) := by decide +kernel
theorem dX1_seekFrom_9 : decode cX1_seekFrom 9 = .ok (.iload_n 1, 1) := by decide +kernel
theorem dX1_seekFrom_10 : decode cX1_seekFrom 10 = .ok (.aload_n 0, 1) := by decide +kernel
theorem dX1_seekFrom_11 : decode cX1_seekFrom 11 = .ok (.getfield 36, 3) := by decide +kernel
theorem dX1_seekFrom_14 : decode cX1_seekFrom 14 = .ok (.if_icmp .ge 9, 3) := by decide +kernel
theorem dX1_seekFrom_17 : decode cX1_seekFrom 17 = .ok (.iload_n 1, 1) := by decide +kernel
theorem dX1_seekFrom_18 : decode cX1_seekFrom 18 = .ok (.bipush 6, 2) := by decide +kernel
theorem dX1_seekFrom_20 : decode cX1_seekFrom 20 = .ok (.if_icmp .lt 61, 3) := by decide +kernel
theorem dX1_seekFrom_23 : decode cX1_seekFrom 23 = .ok (.iload_n 3, 1) := by decide +kernel
theorem dX1_seekFrom_24 : decode cX1_seekFrom 24 = .ok (.aload_n 0, 1) := by decide +kernel
theorem dX1_seekFrom_25 : decode cX1_seekFrom 25 = .ok (.aload_n 0, 1) := by decide +kernel
theorem dX1_seekFrom_26 : decode cX1_seekFrom 26 = .ok (.getfield 15, 3) := by decide +kernel
theorem dX1_seekFrom_29 : decode cX1_seekFrom 29 = .ok (.aload_n 0, 1) := by decide +kernel
theorem dX1_seekFrom_30 : decode cX1_seekFrom 30 = .ok (.getfield 36, 3) := by decide +kernel
theorem dX1_seekFrom_33 : decode cX1_seekFrom 33 = .ok (.iconst 1, 1) := by decide +kernel
theorem dX1_seekFrom_34 : decode cX1_seekFrom 34 = .ok (.isub, 1) := by decide +kernel
theorem dX1_seekFrom_35 : decode cX1_seekFrom 35 = .ok (.iaload, 1) := by decide +kernel
theorem dX1_seekFrom_36 : decode cX1_seekFrom 36 = .ok (.aload_n 0, 1) := by decide +kernel
theorem dX1_seekFrom_37 : decode cX1_seekFrom 37 = .ok (.getfield 15, 3) := by decide +kernel
theorem dX1_seekFrom_40 : decode cX1_seekFrom 40 = .ok (.iconst 0, 1) := by decide +kernel
theorem dX1_seekFrom_41 : decode cX1_seekFrom 41 = .ok (.iaload, 1) := by decide +kernel
theorem dX1_seekFrom_42 : decode cX1_seekFrom 42 = .ok (.invokevirtual 47, 3) := by decide +kernel
theorem dX1_seekFrom_45 : decode cX1_seekFrom 45 = .ok (.invokestatic 30, 3) := by decide +kernel
theorem dX1_seekFrom_48 : decode cX1_seekFrom 48 = .ok (.istore 4, 2) := by decide +kernel
theorem dX1_seekFrom_50 : decode cX1_seekFrom 50 = .ok (.iload 4, 2) := by decide +kernel
theorem dX1_seekFrom_52 : decode cX1_seekFrom 52 = .ok (.aload_n 0, 1) := by decide +kernel
theorem dX1_seekFrom_53 : decode cX1_seekFrom 53 = .ok (.getfield 50, 3) := by decide +kernel
theorem dX1_seekFrom_56 : decode cX1_seekFrom 56 = .ok (.if_icmp .le 24, 3) := by decide +kernel
theorem dX1_seekFrom_59 : decode cX1_seekFrom 59 = .ok (.aload_n 0, 1) := by decide +kernel
theorem dX1_seekFrom_60 : decode cX1_seekFrom 60 = .ok (.iload 4, 2) := by decide +kernel
theorem dX1_seekFrom_62 : decode cX1_seekFrom 62 = .ok (.putfield 50, 3) := by decide +kernel
theorem dX1_seekFrom_65 : decode cX1_seekFrom 65 = .ok (.aload_n 0, 1) := by decide +kernel
theorem dX1_seekFrom_66 : decode cX1_seekFrom 66 = .ok (.getfield 15, 3) := by decide +kernel
theorem dX1_seekFrom_69 : decode cX1_seekFrom 69 = .ok (.iconst 0, 1) := by decide +kernel
theorem dX1_seekFrom_70 : decode cX1_seekFrom 70 = .ok (.aload_n 0, 1) := by decide +kernel
theorem dX1_seekFrom_71 : decode cX1_seekFrom 71 = .ok (.getfield 21, 3) := by decide +kernel
theorem dX1_seekFrom_74 : decode cX1_seekFrom 74 = .ok (.iconst 0, 1) := by decide +kernel
theorem dX1_seekFrom_75 : decode cX1_seekFrom 75 = .ok (.bipush 6, 2) := by decide +kernel
theorem dX1_seekFrom_77 : decode cX1_seekFrom 77 = .ok (.invokestatic 38, 3) := by decide +kernel
theorem dX1_seekFrom_80 : decode cX1_seekFrom 80 = .ok (.return_, 1) := by decide +kernel
theorem dX1_seekFrom_81 : decode cX1_seekFrom 81 = .ok (.iconst 0, 1) := by decide +kernel
theorem dX1_seekFrom_82 : decode cX1_seekFrom 82 = .ok (.istore 4, 2) := by decide +kernel
theorem dX1_seekFrom_84 : decode cX1_seekFrom 84 = .ok (.iload 4, 2) := by decide +kernel
theorem dX1_seekFrom_86 : decode cX1_seekFrom 86 = .ok (.bipush 6, 2) := by decide +kernel
theorem dX1_seekFrom_88 : decode cX1_seekFrom 88 = .ok (.if_icmp .ge 64, 3) := by decide +kernel
theorem dX1_seekFrom_91 : decode cX1_seekFrom 91 = .ok (.iload_n 2, 1) := by decide +kernel
theorem dX1_seekFrom_92 : decode cX1_seekFrom 92 = .ok (.iload 4, 2) := by decide +kernel
theorem dX1_seekFrom_94 : decode cX1_seekFrom 94 = .ok (.ishr, 1) := by decide +kernel
theorem dX1_seekFrom_95 : decode cX1_seekFrom 95 = .ok (.iconst 1, 1) := by decide +kernel
theorem dX1_seekFrom_96 : decode cX1_seekFrom 96 = .ok (.iand, 1) := by decide +kernel
theorem dX1_seekFrom_97 : decode cX1_seekFrom 97 = .ok (.iconst 1, 1) := by decide +kernel
theorem dX1_seekFrom_98 : decode cX1_seekFrom 98 = .ok (.if_icmp .ne 48, 3) := by decide +kernel
theorem dX1_seekFrom_101 : decode cX1_seekFrom 101 = .ok (.aload_n 0, 1) := by decide +kernel
theorem dX1_seekFrom_102 : decode cX1_seekFrom 102 = .ok (.getfield 15, 3) := by decide +kernel
theorem dX1_seekFrom_105 : decode cX1_seekFrom 105 = .ok (.iload_n 1, 1) := by decide +kernel
theorem dX1_seekFrom_106 : decode cX1_seekFrom 106 = .ok (.iload 4, 2) := by decide +kernel
theorem dX1_seekFrom_108 : decode cX1_seekFrom 108 = .ok (.iastore, 1) := by decide +kernel
theorem dX1_seekFrom_109 : decode cX1_seekFrom 109 = .ok (.aload_n 0, 1) := by decide +kernel
theorem dX1_seekFrom_110 : decode cX1_seekFrom 110 = .ok (.aload_n 0, 1) := by decide +kernel
theorem dX1_seekFrom_111 : decode cX1_seekFrom 111 = .ok (.getfield 15, 3) := by decide +kernel
theorem dX1_seekFrom_114 : decode cX1_seekFrom 114 = .ok (.iload_n 1, 1) := by decide +kernel
theorem dX1_seekFrom_115 : decode cX1_seekFrom 115 = .ok (.iconst 1, 1) := by decide +kernel
theorem dX1_seekFrom_116 : decode cX1_seekFrom 116 = .ok (.isub, 1) := by decide +kernel
theorem dX1_seekFrom_117 : decode cX1_seekFrom 117 = .ok (.iaload, 1) := by decide +kernel
theorem dX1_seekFrom_118 : decode cX1_seekFrom 118 = .ok (.iload 4, 2) := by decide +kernel
theorem dX1_seekFrom_120 : decode cX1_seekFrom 120 = .ok (.invokevirtual 47, 3) := by decide +kernel
theorem dX1_seekFrom_123 : decode cX1_seekFrom 123 = .ok (.istore 5, 2) := by decide +kernel
theorem dX1_seekFrom_125 : decode cX1_seekFrom 125 = .ok (.aload_n 0, 1) := by decide +kernel
theorem dX1_seekFrom_126 : decode cX1_seekFrom 126 = .ok (.iload_n 1, 1) := by decide +kernel
theorem dX1_seekFrom_127 : decode cX1_seekFrom 127 = .ok (.iconst 1, 1) := by decide +kernel
theorem dX1_seekFrom_128 : decode cX1_seekFrom 128 = .ok (.iadd, 1) := by decide +kernel
theorem dX1_seekFrom_129 : decode cX1_seekFrom 129 = .ok (.iload_n 2, 1) := by decide +kernel
theorem dX1_seekFrom_130 : decode cX1_seekFrom 130 = .ok (.iconst 1, 1) := by decide +kernel
theorem dX1_seekFrom_131 : decode cX1_seekFrom 131 = .ok (.iload 4, 2) := by decide +kernel
theorem dX1_seekFrom_133 : decode cX1_seekFrom 133 = .ok (.ishl, 1) := by decide +kernel
theorem dX1_seekFrom_134 : decode cX1_seekFrom 134 = .ok (.iconst (-1), 1) := by decide +kernel
theorem dX1_seekFrom_135 : decode cX1_seekFrom 135 = .ok (.ixor, 1) := by decide +kernel
theorem dX1_seekFrom_136 : decode cX1_seekFrom 136 = .ok (.iand, 1) := by decide +kernel
theorem dX1_seekFrom_137 : decode cX1_seekFrom 137 = .ok (.iload_n 3, 1) := by decide +kernel
theorem dX1_seekFrom_138 : decode cX1_seekFrom 138 = .ok (.iload 5, 2) := by decide +kernel
theorem dX1_seekFrom_140 : decode cX1_seekFrom 140 = .ok (.invokestatic 30, 3) := by decide +kernel
theorem dX1_seekFrom_143 : decode cX1_seekFrom 143 = .ok (.invokevirtual 53, 3) := by decide +kernel
theorem dX1_seekFrom_146 : decode cX1_seekFrom 146 = .ok (.iinc 4 1, 3) := by decide +kernel
theorem dX1_seekFrom_149 : decode cX1_seekFrom 149 = .ok (.goto (-65), 3) := by decide +kernel
theorem dX1_seekFrom_152 : decode cX1_seekFrom 152 = .ok (.return_, 1) := by decide +kernel
theorem dX1_bestDigits_0 : decode cX1_bestDigits 0 = .ok (.iconst 0, 1) := by decide +kernel
theorem dX1_bestDigits_1 : decode cX1_bestDigits 1 = .ok (.istore_n 1, 1) := by decide +kernel
theorem dX1_bestDigits_2 : decode cX1_bestDigits 2 = .ok (.iconst 0, 1) := by decide +kernel
theorem dX1_bestDigits_3 : decode cX1_bestDigits 3 = .ok (.istore_n 2, 1) := by decide +kernel
theorem dX1_bestDigits_4 : decode cX1_bestDigits 4 = .ok (.iload_n 2, 1) := by decide +kernel
theorem dX1_bestDigits_5 : decode cX1_bestDigits 5 = .ok (.aload_n 0, 1) := by decide +kernel
theorem dX1_bestDigits_6 : decode cX1_bestDigits 6 = .ok (.getfield 36, 3) := by decide +kernel
theorem dX1_bestDigits_9 : decode cX1_bestDigits 9 = .ok (.if_icmp .ge 23, 3) := by decide +kernel
theorem dX1_bestDigits_12 : decode cX1_bestDigits 12 = .ok (.iload_n 1, 1) := by decide +kernel
theorem dX1_bestDigits_13 : decode cX1_bestDigits 13 = .ok (.bipush 10, 2) := by decide +kernel
theorem dX1_bestDigits_15 : decode cX1_bestDigits 15 = .ok (.imul, 1) := by decide +kernel
theorem dX1_bestDigits_16 : decode cX1_bestDigits 16 = .ok (.aload_n 0, 1) := by decide +kernel
theorem dX1_bestDigits_17 : decode cX1_bestDigits 17 = .ok (.getfield 21, 3) := by decide +kernel
theorem dX1_bestDigits_20 : decode cX1_bestDigits 20 = .ok (.iload_n 2, 1) := by decide +kernel
theorem dX1_bestDigits_21 : decode cX1_bestDigits 21 = .ok (.iaload, 1) := by decide +kernel
theorem dX1_bestDigits_22 : decode cX1_bestDigits 22 = .ok (.iadd, 1) := by decide +kernel
theorem dX1_bestDigits_23 : decode cX1_bestDigits 23 = .ok (.iconst 1, 1) := by decide +kernel
theorem dX1_bestDigits_24 : decode cX1_bestDigits 24 = .ok (.iadd, 1) := by decide +kernel
theorem dX1_bestDigits_25 : decode cX1_bestDigits 25 = .ok (.istore_n 1, 1) := by decide +kernel
theorem dX1_bestDigits_26 : decode cX1_bestDigits 26 = .ok (.iinc 2 1, 3) := by decide +kernel
theorem dX1_bestDigits_29 : decode cX1_bestDigits 29 = .ok (.goto (-25), 3) := by decide +kernel
theorem dX1_bestDigits_32 : decode cX1_bestDigits 32 = .ok (.iload_n 1, 1) := by decide +kernel
theorem dX1_bestDigits_33 : decode cX1_bestDigits 33 = .ok (.ireturn, 1) := by decide +kernel
theorem dX1_fewestChanges_0 : decode cX1_fewestChanges 0 = .ok (.iconst 0, 1) := by decide +kernel
theorem dX1_fewestChanges_1 : decode cX1_fewestChanges 1 = .ok (.istore_n 1, 1) := by decide +kernel
theorem dX1_fewestChanges_2 : decode cX1_fewestChanges 2 = .ok (.iload_n 1, 1) := by decide +kernel
theorem dX1_fewestChanges_3 : decode cX1_fewestChanges 3 = .ok (.iconst 2, 1) := by decide +kernel
theorem dX1_fewestChanges_4 : decode cX1_fewestChanges 4 = .ok (.if_icmp .gt 19, 3) := by decide +kernel
theorem dX1_fewestChanges_7 : decode cX1_fewestChanges 7 = .ok (.aload_n 0, 1) := by decide +kernel
theorem dX1_fewestChanges_8 : decode cX1_fewestChanges 8 = .ok (.iload_n 1, 1) := by decide +kernel
theorem dX1_fewestChanges_9 : decode cX1_fewestChanges 9 = .ok (.invokevirtual 57, 3) := by decide +kernel
theorem dX1_fewestChanges_12 : decode cX1_fewestChanges 12 = .ok (.ifCond .eq 5, 3) := by decide +kernel
theorem dX1_fewestChanges_15 : decode cX1_fewestChanges 15 = .ok (.iload_n 1, 1) := by decide +kernel
theorem dX1_fewestChanges_16 : decode cX1_fewestChanges 16 = .ok (.ireturn, 1) := by decide +kernel
theorem dX1_fewestChanges_17 : decode cX1_fewestChanges 17 = .ok (.iinc 1 1, 3) := by decide +kernel
theorem dX1_fewestChanges_20 : decode cX1_fewestChanges 20 = .ok (.goto (-18), 3) := by decide +kernel
theorem dX1_fewestChanges_23 : decode cX1_fewestChanges 23 = .ok (.iconst (-1), 1) := by decide +kernel
theorem dX1_fewestChanges_24 : decode cX1_fewestChanges 24 = .ok (.ireturn, 1) := by decide +kernel
theorem dX1_closesBy_0 : decode cX1_closesBy 0 = .ok (.iload_n 1, 1) := by decide +kernel
theorem dX1_closesBy_1 : decode cX1_closesBy 1 = .ok (.ifCond .gt 16, 3) := by decide +kernel
theorem dX1_closesBy_4 : decode cX1_closesBy 4 = .ok (.aload_n 0, 1) := by decide +kernel
theorem dX1_closesBy_5 : decode cX1_closesBy 5 = .ok (.invokevirtual 61, 3) := by decide +kernel
theorem dX1_closesBy_8 : decode cX1_closesBy 8 = .ok (.ifCond .eq 7, 3) := by decide +kernel
theorem dX1_closesBy_11 : decode cX1_closesBy 11 = .ok (.iconst 1, 1) := by decide +kernel
theorem dX1_closesBy_12 : decode cX1_closesBy 12 = .ok (.goto 4, 3) := by decide +kernel
theorem dX1_closesBy_15 : decode cX1_closesBy 15 = .ok (.iconst 0, 1) := by decide +kernel
theorem dX1_closesBy_16 : decode cX1_closesBy 16 = .ok (.ireturn, 1) := by decide +kernel
theorem dX1_closesBy_17 : decode cX1_closesBy 17 = .ok (.iconst 0, 1) := by decide +kernel
theorem dX1_closesBy_18 : decode cX1_closesBy 18 = .ok (.istore_n 2, 1) := by decide +kernel
theorem dX1_closesBy_19 : decode cX1_closesBy 19 = .ok (.iconst 0, 1) := by decide +kernel
theorem dX1_closesBy_20 : decode cX1_closesBy 20 = .ok (.istore_n 3, 1) := by decide +kernel
theorem dX1_closesBy_21 : decode cX1_closesBy 21 = .ok (.iload_n 3, 1) := by decide +kernel
theorem dX1_closesBy_22 : decode cX1_closesBy 22 = .ok (.aload_n 0, 1) := by decide +kernel
theorem dX1_closesBy_23 : decode cX1_closesBy 23 = .ok (.getfield 36, 3) := by decide +kernel
theorem dX1_closesBy_26 : decode cX1_closesBy 26 = .ok (.if_icmp .ge 54, 3) := by decide +kernel
theorem dX1_closesBy_29 : decode cX1_closesBy 29 = .ok (.iload_n 2, 1) := by decide +kernel
theorem dX1_closesBy_30 : decode cX1_closesBy 30 = .ok (.ifCond .ne 50, 3) := by decide +kernel
theorem dX1_closesBy_33 : decode cX1_closesBy 33 = .ok (.iconst 0, 1) := by decide +kernel
theorem dX1_closesBy_34 : decode cX1_closesBy 34 = .ok (.istore 4, 2) := by decide +kernel
theorem dX1_closesBy_36 : decode cX1_closesBy 36 = .ok (.iload 4, 2) := by decide +kernel
theorem dX1_closesBy_38 : decode cX1_closesBy 38 = .ok (.iload_n 3, 1) := by decide +kernel
theorem dX1_closesBy_39 : decode cX1_closesBy 39 = .ok (.if_icmp .ge 35, 3) := by decide +kernel
theorem dX1_closesBy_42 : decode cX1_closesBy 42 = .ok (.iload_n 2, 1) := by decide +kernel
theorem dX1_closesBy_43 : decode cX1_closesBy 43 = .ok (.ifCond .ne 31, 3) := by decide +kernel
theorem dX1_closesBy_46 : decode cX1_closesBy 46 = .ok (.aload_n 0, 1) := by decide +kernel
theorem dX1_closesBy_47 : decode cX1_closesBy 47 = .ok (.iload_n 3, 1) := by decide +kernel
theorem dX1_closesBy_48 : decode cX1_closesBy 48 = .ok (.iload 4, 2) := by decide +kernel
theorem dX1_closesBy_50 : decode cX1_closesBy 50 = .ok (.invokevirtual 65, 3) := by decide +kernel
theorem dX1_closesBy_53 : decode cX1_closesBy 53 = .ok (.aload_n 0, 1) := by decide +kernel
theorem dX1_closesBy_54 : decode cX1_closesBy 54 = .ok (.iload_n 1, 1) := by decide +kernel
theorem dX1_closesBy_55 : decode cX1_closesBy 55 = .ok (.iconst 1, 1) := by decide +kernel
theorem dX1_closesBy_56 : decode cX1_closesBy 56 = .ok (.isub, 1) := by decide +kernel
theorem dX1_closesBy_57 : decode cX1_closesBy 57 = .ok (.invokevirtual 57, 3) := by decide +kernel
theorem dX1_closesBy_60 : decode cX1_closesBy 60 = .ok (.istore_n 2, 1) := by decide +kernel
theorem dX1_closesBy_61 : decode cX1_closesBy 61 = .ok (.aload_n 0, 1) := by decide +kernel
theorem dX1_closesBy_62 : decode cX1_closesBy 62 = .ok (.iload_n 3, 1) := by decide +kernel
theorem dX1_closesBy_63 : decode cX1_closesBy 63 = .ok (.iload 4, 2) := by decide +kernel
theorem dX1_closesBy_65 : decode cX1_closesBy 65 = .ok (.invokevirtual 65, 3) := by decide +kernel
theorem dX1_closesBy_68 : decode cX1_closesBy 68 = .ok (.iinc 4 1, 3) := by decide +kernel
theorem dX1_closesBy_71 : decode cX1_closesBy 71 = .ok (.goto (-35), 3) := by decide +kernel
theorem dX1_closesBy_74 : decode cX1_closesBy 74 = .ok (.iinc 3 1, 3) := by decide +kernel
theorem dX1_closesBy_77 : decode cX1_closesBy 77 = .ok (.goto (-56), 3) := by decide +kernel
theorem dX1_closesBy_80 : decode cX1_closesBy 80 = .ok (.iload_n 2, 1) := by decide +kernel
theorem dX1_closesBy_81 : decode cX1_closesBy 81 = .ok (.ireturn, 1) := by decide +kernel
theorem dX1_weakestDrawn_0 : decode cX1_weakestDrawn 0 = .ok (.aload_n 0, 1) := by decide +kernel
theorem dX1_weakestDrawn_1 : decode cX1_weakestDrawn 1 = .ok (.getfield 18, 3) := by decide +kernel
theorem dX1_weakestDrawn_4 : decode cX1_weakestDrawn 4 = .ok (.iconst 0, 1) := by decide +kernel
theorem dX1_weakestDrawn_5 : decode cX1_weakestDrawn 5 = .ok (.aload_n 0, 1) := by decide +kernel
theorem dX1_weakestDrawn_6 : decode cX1_weakestDrawn 6 = .ok (.getfield 15, 3) := by decide +kernel
theorem dX1_weakestDrawn_9 : decode cX1_weakestDrawn 9 = .ok (.iconst 0, 1) := by decide +kernel
theorem dX1_weakestDrawn_10 : decode cX1_weakestDrawn 10 = .ok (.bipush 6, 2) := by decide +kernel
theorem dX1_weakestDrawn_12 : decode cX1_weakestDrawn 12 = .ok (.invokestatic 38, 3) := by decide +kernel
theorem dX1_weakestDrawn_15 : decode cX1_weakestDrawn 15 = .ok (.iload_n 1, 1) := by decide +kernel
theorem dX1_weakestDrawn_16 : decode cX1_weakestDrawn 16 = .ok (.istore_n 3, 1) := by decide +kernel
theorem dX1_weakestDrawn_17 : decode cX1_weakestDrawn 17 = .ok (.iconst 0, 1) := by decide +kernel
theorem dX1_weakestDrawn_18 : decode cX1_weakestDrawn 18 = .ok (.istore 4, 2) := by decide +kernel
theorem dX1_weakestDrawn_20 : decode cX1_weakestDrawn 20 = .ok (.iload 4, 2) := by decide +kernel
theorem dX1_weakestDrawn_22 : decode cX1_weakestDrawn 22 = .ok (.iload_n 2, 1) := by decide +kernel
theorem dX1_weakestDrawn_23 : decode cX1_weakestDrawn 23 = .ok (.if_icmp .ge 48, 3) := by decide +kernel
theorem dX1_weakestDrawn_26 : decode cX1_weakestDrawn 26 = .ok (.iload_n 3, 1) := by decide +kernel
theorem dX1_weakestDrawn_27 : decode cX1_weakestDrawn 27 = .ok (.ldc 69, 2) := by decide +kernel
theorem dX1_weakestDrawn_29 : decode cX1_weakestDrawn 29 = .ok (.imul, 1) := by decide +kernel
theorem dX1_weakestDrawn_30 : decode cX1_weakestDrawn 30 = .ok (.sipush 12345, 3) := by decide +kernel
theorem dX1_weakestDrawn_33 : decode cX1_weakestDrawn 33 = .ok (.iadd, 1) := by decide +kernel
theorem dX1_weakestDrawn_34 : decode cX1_weakestDrawn 34 = .ok (.istore 5, 2) := by decide +kernel
theorem dX1_weakestDrawn_36 : decode cX1_weakestDrawn 36 = .ok (.iload 5, 2) := by decide +kernel
theorem dX1_weakestDrawn_38 : decode cX1_weakestDrawn 38 = .ok (.ldc 69, 2) := by decide +kernel
theorem dX1_weakestDrawn_40 : decode cX1_weakestDrawn 40 = .ok (.imul, 1) := by decide +kernel
theorem dX1_weakestDrawn_41 : decode cX1_weakestDrawn 41 = .ok (.sipush 12345, 3) := by decide +kernel
theorem dX1_weakestDrawn_44 : decode cX1_weakestDrawn 44 = .ok (.iadd, 1) := by decide +kernel
theorem dX1_weakestDrawn_45 : decode cX1_weakestDrawn 45 = .ok (.istore_n 3, 1) := by decide +kernel
theorem dX1_weakestDrawn_46 : decode cX1_weakestDrawn 46 = .ok (.aload_n 0, 1) := by decide +kernel
theorem dX1_weakestDrawn_47 : decode cX1_weakestDrawn 47 = .ok (.iload 5, 2) := by decide +kernel
theorem dX1_weakestDrawn_49 : decode cX1_weakestDrawn 49 = .ok (.bipush 9, 2) := by decide +kernel
theorem dX1_weakestDrawn_51 : decode cX1_weakestDrawn 51 = .ok (.iushr, 1) := by decide +kernel
theorem dX1_weakestDrawn_52 : decode cX1_weakestDrawn 52 = .ok (.bipush 8, 2) := by decide +kernel
theorem dX1_weakestDrawn_54 : decode cX1_weakestDrawn 54 = .ok (.irem, 1) := by decide +kernel
theorem dX1_weakestDrawn_55 : decode cX1_weakestDrawn 55 = .ok (.iload_n 3, 1) := by decide +kernel
theorem dX1_weakestDrawn_56 : decode cX1_weakestDrawn 56 = .ok (.bipush 9, 2) := by decide +kernel
theorem dX1_weakestDrawn_58 : decode cX1_weakestDrawn 58 = .ok (.iushr, 1) := by decide +kernel
theorem dX1_weakestDrawn_59 : decode cX1_weakestDrawn 59 = .ok (.bipush 8, 2) := by decide +kernel
theorem dX1_weakestDrawn_61 : decode cX1_weakestDrawn 61 = .ok (.irem, 1) := by decide +kernel
theorem dX1_weakestDrawn_62 : decode cX1_weakestDrawn 62 = .ok (.invokevirtual 65, 3) := by decide +kernel
theorem dX1_weakestDrawn_65 : decode cX1_weakestDrawn 65 = .ok (.iinc 4 1, 3) := by decide +kernel
theorem dX1_weakestDrawn_68 : decode cX1_weakestDrawn 68 = .ok (.goto (-48), 3) := by decide +kernel
theorem dX1_weakestDrawn_71 : decode cX1_weakestDrawn 71 = .ok (.aload_n 0, 1) := by decide +kernel
theorem dX1_weakestDrawn_72 : decode cX1_weakestDrawn 72 = .ok (.invokevirtual 61, 3) := by decide +kernel
theorem dX1_weakestDrawn_75 : decode cX1_weakestDrawn 75 = .ok (.ireturn, 1) := by decide +kernel
