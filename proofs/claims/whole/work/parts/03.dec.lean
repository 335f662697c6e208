theorem dX0_init_0 : decode cX0_init 0 = .ok (.aload_n 0, 1) := by decide +kernel
theorem dX0_init_1 : decode cX0_init 1 = .ok (.aload_n 1, 1) := by decide +kernel
theorem dX0_init_2 : decode cX0_init 2 = .ok (.invokespecial 1, 3) := by decide +kernel
theorem dX0_init_5 : decode cX0_init 5 = .ok (.aload_n 0, 1) := by decide +kernel
theorem dX0_init_6 : decode cX0_init 6 = .ok (.iconst 0, 1) := by decide +kernel
theorem dX0_init_7 : decode cX0_init 7 = .ok (.putfield 7, 3) := by decide +kernel
theorem dX0_init_10 : decode cX0_init 10 = .ok (.aload_n 0, 1) := by decide +kernel
theorem dX0_init_11 : decode cX0_init 11 = .ok (.iconst 0, 1) := by decide +kernel
theorem dX0_init_12 : decode cX0_init 12 = .ok (.putfield 13, 3) := by decide +kernel
theorem dX0_init_15 : decode cX0_init 15 = .ok (.aload_n 0, 1) := by decide +kernel
theorem dX0_init_16 : decode cX0_init 16 = .ok (.iconst 0, 1) := by decide +kernel
theorem dX0_init_17 : decode cX0_init 17 = .ok (.putfield 17, 3) := by decide +kernel
theorem dX0_init_20 : decode cX0_init 20 = .ok (.aload_n 0, 1) := by decide +kernel
theorem dX0_init_21 : decode cX0_init 21 = .ok (.iconst 0, 1) := by decide +kernel
theorem dX0_init_22 : decode cX0_init 22 = .ok (.putfield 20, 3) := by decide +kernel
theorem dX0_init_25 : decode cX0_init 25 = .ok (.aload_n 0, 1) := by decide +kernel
theorem dX0_init_26 : decode cX0_init 26 = .ok (.iconst 0, 1) := by decide +kernel
theorem dX0_init_27 : decode cX0_init 27 = .ok (.putfield 23, 3) := by decide +kernel
theorem dX0_init_30 : decode cX0_init 30 = .ok (.return_, 1) := by decide +kernel
theorem dX0_begin_0 : decode cX0_begin 0 = .ok (.aload_n 0, 1) := by decide +kernel
theorem dX0_begin_1 : decode cX0_begin 1 = .ok (.iconst 0, 1) := by decide +kernel
theorem dX0_begin_2 : decode cX0_begin 2 = .ok (.putfield 7, 3) := by decide +kernel
theorem dX0_begin_5 : decode cX0_begin 5 = .ok (.return_, 1) := by decide +kernel
theorem dX0_isHopeless_0 : decode cX0_isHopeless 0 = .ok (.aload_n 0, 1) := by decide +kernel
theorem dX0_isHopeless_1 : decode cX0_isHopeless 1 = .ok (.iconst 0, 1) := by decide +kernel
theorem dX0_isHopeless_2 : decode cX0_isHopeless 2 = .ok (.putfield 20, 3) := by decide +kernel
theorem dX0_isHopeless_5 : decode cX0_isHopeless 5 = .ok (.aload_n 0, 1) := by decide +kernel
theorem dX0_isHopeless_6 : decode cX0_isHopeless 6 = .ok (.iconst 0, 1) := by decide +kernel
theorem dX0_isHopeless_7 : decode cX0_isHopeless 7 = .ok (.putfield 23, 3) := by decide +kernel
theorem dX0_isHopeless_10 : decode cX0_isHopeless 10 = .ok (.iconst 0, 1) := by decide +kernel
theorem dX0_isHopeless_11 : decode cX0_isHopeless 11 = .ok (.istore_n 2, 1) := by decide +kernel
theorem dX0_isHopeless_12 : decode cX0_isHopeless 12 = .ok (.iload_n 2, 1) := by decide +kernel
theorem dX0_isHopeless_13 : decode cX0_isHopeless 13 = .ok (.aload_n 0, 1) := by decide +kernel
theorem dX0_isHopeless_14 : decode cX0_isHopeless 14 = .ok (.getfield 26, 3) := by decide +kernel
theorem dX0_isHopeless_17 : decode cX0_isHopeless 17 = .ok (.getfield 30, 3) := by decide +kernel
theorem dX0_isHopeless_20 : decode cX0_isHopeless 20 = .ok (.if_icmp .ge 57, 3) := by decide +kernel
theorem dX0_isHopeless_23 : decode cX0_isHopeless 23 = .ok (.aload_n 0, 1) := by decide +kernel
theorem dX0_isHopeless_24 : decode cX0_isHopeless 24 = .ok (.iload_n 1, 1) := by decide +kernel
theorem dX0_isHopeless_25 : decode cX0_isHopeless 25 = .ok (.iload_n 2, 1) := by decide +kernel
theorem dX0_isHopeless_26 : decode cX0_isHopeless 26 = .ok (.invokevirtual 35, 3) := by decide +kernel
theorem dX0_isHopeless_29 : decode cX0_isHopeless 29 = .ok (.istore_n 3, 1) := by decide +kernel
theorem dX0_isHopeless_30 : decode cX0_isHopeless 30 = .ok (.aload_n 0, 1) := by decide +kernel
theorem dX0_isHopeless_31 : decode cX0_isHopeless 31 = .ok (.aload_n 0, 1) := by decide +kernel
theorem dX0_isHopeless_32 : decode cX0_isHopeless 32 = .ok (.getfield 20, 3) := by decide +kernel
theorem dX0_isHopeless_35 : decode cX0_isHopeless 35 = .ok (.iload_n 3, 1) := by decide +kernel
theorem dX0_isHopeless_36 : decode cX0_isHopeless 36 = .ok (.invokestatic 39, 3) := by decide +kernel
theorem dX0_isHopeless_39 : decode cX0_isHopeless 39 = .ok (.putfield 20, 3) := by decide +kernel
theorem dX0_isHopeless_42 : decode cX0_isHopeless 42 = .ok (.aload_n 0, 1) := by decide +kernel
theorem dX0_isHopeless_43 : decode cX0_isHopeless 43 = .ok (.dup, 1) := by decide +kernel
theorem dX0_isHopeless_44 : decode cX0_isHopeless 44 = .ok (.getfield 23, 3) := by decide +kernel
theorem dX0_isHopeless_47 : decode cX0_isHopeless 47 = .ok (.iload_n 3, 1) := by decide +kernel
theorem dX0_isHopeless_48 : decode cX0_isHopeless 48 = .ok (.aload_n 0, 1) := by decide +kernel
theorem dX0_isHopeless_49 : decode cX0_isHopeless 49 = .ok (.getfield 26, 3) := by decide +kernel
theorem dX0_isHopeless_52 : decode cX0_isHopeless 52 = .ok (.getfield 44, 3) := by decide +kernel
theorem dX0_isHopeless_55 : decode cX0_isHopeless 55 = .ok (.iload_n 2, 1) := by decide +kernel
theorem dX0_isHopeless_56 : decode cX0_isHopeless 56 = .ok (.iaload, 1) := by decide +kernel
theorem dX0_isHopeless_57 : decode cX0_isHopeless 57 = .ok (.imul, 1) := by decide +kernel
theorem dX0_isHopeless_58 : decode cX0_isHopeless 58 = .ok (.aload_n 0, 1) := by decide +kernel
theorem dX0_isHopeless_59 : decode cX0_isHopeless 59 = .ok (.getfield 26, 3) := by decide +kernel
theorem dX0_isHopeless_62 : decode cX0_isHopeless 62 = .ok (.iload_n 2, 1) := by decide +kernel
theorem dX0_isHopeless_63 : decode cX0_isHopeless 63 = .ok (.invokevirtual 48, 3) := by decide +kernel
theorem dX0_isHopeless_66 : decode cX0_isHopeless 66 = .ok (.imul, 1) := by decide +kernel
theorem dX0_isHopeless_67 : decode cX0_isHopeless 67 = .ok (.iadd, 1) := by decide +kernel
theorem dX0_isHopeless_68 : decode cX0_isHopeless 68 = .ok (.putfield 23, 3) := by decide +kernel
theorem dX0_isHopeless_71 : decode cX0_isHopeless 71 = .ok (.iinc 2 1, 3) := by decide +kernel
theorem dX0_isHopeless_74 : decode cX0_isHopeless 74 = .ok (.goto (-62), 3) := by decide +kernel
theorem dX0_isHopeless_77 : decode cX0_isHopeless 77 = .ok (.aload_n 0, 1) := by decide +kernel
theorem dX0_isHopeless_78 : decode cX0_isHopeless 78 = .ok (.getfield 7, 3) := by decide +kernel
theorem dX0_isHopeless_81 : decode cX0_isHopeless 81 = .ok (.ifCond .eq 40, 3) := by decide +kernel
theorem dX0_isHopeless_84 : decode cX0_isHopeless 84 = .ok (.aload_n 0, 1) := by decide +kernel
theorem dX0_isHopeless_85 : decode cX0_isHopeless 85 = .ok (.getfield 20, 3) := by decide +kernel
theorem dX0_isHopeless_88 : decode cX0_isHopeless 88 = .ok (.aload_n 0, 1) := by decide +kernel
theorem dX0_isHopeless_89 : decode cX0_isHopeless 89 = .ok (.getfield 13, 3) := by decide +kernel
theorem dX0_isHopeless_92 : decode cX0_isHopeless 92 = .ok (.if_icmp .gt 25, 3) := by decide +kernel
theorem dX0_isHopeless_95 : decode cX0_isHopeless 95 = .ok (.aload_n 0, 1) := by decide +kernel
theorem dX0_isHopeless_96 : decode cX0_isHopeless 96 = .ok (.getfield 20, 3) := by decide +kernel
theorem dX0_isHopeless_99 : decode cX0_isHopeless 99 = .ok (.aload_n 0, 1) := by decide +kernel
theorem dX0_isHopeless_100 : decode cX0_isHopeless 100 = .ok (.getfield 13, 3) := by decide +kernel
theorem dX0_isHopeless_103 : decode cX0_isHopeless 103 = .ok (.if_icmp .ne 18, 3) := by decide +kernel
theorem dX0_isHopeless_106 : decode cX0_isHopeless 106 = .ok (.aload_n 0, 1) := by decide +kernel
theorem dX0_isHopeless_107 : decode cX0_isHopeless 107 = .ok (.getfield 23, 3) := by decide +kernel
theorem dX0_isHopeless_110 : decode cX0_isHopeless 110 = .ok (.aload_n 0, 1) := by decide +kernel
theorem dX0_isHopeless_111 : decode cX0_isHopeless 111 = .ok (.getfield 17, 3) := by decide +kernel
theorem dX0_isHopeless_114 : decode cX0_isHopeless 114 = .ok (.if_icmp .lt 7, 3) := by decide +kernel
theorem dX0_isHopeless_117 : decode cX0_isHopeless 117 = .ok (.iconst 1, 1) := by decide +kernel
theorem dX0_isHopeless_118 : decode cX0_isHopeless 118 = .ok (.goto 4, 3) := by decide +kernel
theorem dX0_isHopeless_121 : decode cX0_isHopeless 121 = .ok (.iconst 0, 1) := by decide +kernel
theorem dX0_isHopeless_122 : decode cX0_isHopeless 122 = .ok (.ireturn, 1) := by decide +kernel
theorem dX0_reach_0 : decode cX0_reach 0 = .ok (.aload_n 0, 1) := by decide +kernel
theorem dX0_reach_1 : decode cX0_reach 1 = .ok (.iconst 1, 1) := by decide +kernel
theorem dX0_reach_2 : decode cX0_reach 2 = .ok (.putfield 7, 3) := by decide +kernel
theorem dX0_reach_5 : decode cX0_reach 5 = .ok (.aload_n 0, 1) := by decide +kernel
theorem dX0_reach_6 : decode cX0_reach 6 = .ok (.aload_n 0, 1) := by decide +kernel
theorem dX0_reach_7 : decode cX0_reach 7 = .ok (.getfield 20, 3) := by decide +kernel
theorem dX0_reach_10 : decode cX0_reach 10 = .ok (.putfield 13, 3) := by decide +kernel
theorem dX0_reach_13 : decode cX0_reach 13 = .ok (.aload_n 0, 1) := by decide +kernel
theorem dX0_reach_14 : decode cX0_reach 14 = .ok (.aload_n 0, 1) := by decide +kernel
theorem dX0_reach_15 : decode cX0_reach 15 = .ok (.getfield 23, 3) := by decide +kernel
theorem dX0_reach_18 : decode cX0_reach 18 = .ok (.putfield 17, 3) := by decide +kernel
theorem dX0_reach_21 : decode cX0_reach 21 = .ok (.aload_n 0, 1) := by decide +kernel
theorem dX0_reach_22 : decode cX0_reach 22 = .ok (.invokevirtual 52, 3) := by decide +kernel
theorem dX0_reach_25 : decode cX0_reach 25 = .ok (.return_, 1) := by decide +kernel
theorem dX1_init_0 : decode cX1_init 0 = .ok (.aload_n 0, 1) := by decide +kernel
theorem dX1_init_1 : decode cX1_init 1 = .ok (.invokespecial 3, 3) := by decide +kernel
theorem dX1_init_4 : decode cX1_init 4 = .ok (.aload_n 0, 1) := by decide +kernel
theorem dX1_init_5 : decode cX1_init 5 = .ok (.iconst 0, 1) := by decide +kernel
theorem dX1_init_6 : decode cX1_init 6 = .ok (.putfield 9, 3) := by decide +kernel
theorem dX1_init_9 : decode cX1_init 9 = .ok (.aload_n 0, 1) := by decide +kernel
theorem dX1_init_10 : decode cX1_init 10 = .ok (.bipush 10, 2) := by decide +kernel
theorem dX1_init_12 : decode cX1_init 12 = .ok (.newarray .int, 2) := by decide +kernel
theorem dX1_init_14 : decode cX1_init 14 = .ok (.putfield 15, 3) := by decide +kernel
theorem dX1_init_17 : decode cX1_init 17 = .ok (.aload_n 0, 1) := by decide +kernel
theorem dX1_init_18 : decode cX1_init 18 = .ok (.iconst 0, 1) := by decide +kernel
theorem dX1_init_19 : decode cX1_init 19 = .ok (.newarray .int, 2) := by decide +kernel
theorem dX1_init_21 : decode cX1_init 21 = .ok (.putfield 19, 3) := by decide +kernel
theorem dX1_init_24 : decode cX1_init 24 = .ok (.aload_n 0, 1) := by decide +kernel
theorem dX1_init_25 : decode cX1_init 25 = .ok (.iconst (-1), 1) := by decide +kernel
theorem dX1_init_26 : decode cX1_init 26 = .ok (.putfield 22, 3) := by decide +kernel
theorem dX1_init_29 : decode cX1_init 29 = .ok (.aload_n 0, 1) := by decide +kernel
theorem dX1_init_30 : decode cX1_init 30 = .ok (.aload_n 1, 1) := by decide +kernel
theorem dX1_init_31 : decode cX1_init 31 = .ok (.putfield 25, 3) := by decide +kernel
theorem dX1_init_34 : decode cX1_init 34 = .ok (.return_, 1) := by decide +kernel
theorem dX1_solve_0 : decode cX1_solve 0 = .ok (.aload_n 0, 1) := by decide +kernel
theorem dX1_solve_1 : decode cX1_solve 1 = .ok (.getfield 22, 3) := by decide +kernel
theorem dX1_solve_4 : decode cX1_solve 4 = .ok (.aload_n 0, 1) := by decide +kernel
theorem dX1_solve_5 : decode cX1_solve 5 = .ok (.getfield 25, 3) := by decide +kernel
theorem dX1_solve_8 : decode cX1_solve 8 = .ok (.getfield 29, 3) := by decide +kernel
theorem dX1_solve_11 : decode cX1_solve 11 = .ok (.if_icmp .ne 4, 3) := by decide +kernel
theorem dX1_solve_14 : decode cX1_solve 14 = .ok (.return_, 1) := by decide +kernel
theorem dX1_solve_15 : decode cX1_solve 15 = .ok (.aload_n 0, 1) := by decide +kernel
theorem dX1_solve_16 : decode cX1_solve 16 = .ok (.aload_n 0, 1) := by decide +kernel
theorem dX1_solve_17 : decode cX1_solve 17 = .ok (.getfield 25, 3) := by decide +kernel
theorem dX1_solve_20 : decode cX1_solve 20 = .ok (.getfield 29, 3) := by decide +kernel
theorem dX1_solve_23 : decode cX1_solve 23 = .ok (.putfield 22, 3) := by decide +kernel
theorem dX1_solve_26 : decode cX1_solve 26 = .ok (.iconst 1, 1) := by decide +kernel
theorem dX1_solve_27 : decode cX1_solve 27 = .ok (.aload_n 0, 1) := by decide +kernel
theorem dX1_solve_28 : decode cX1_solve 28 = .ok (.getfield 25, 3) := by decide +kernel
theorem dX1_solve_31 : decode cX1_solve 31 = .ok (.getfield 34, 3) := by decide +kernel
theorem dX1_solve_34 : decode cX1_solve 34 = .ok (.ishl, 1) := by decide +kernel
theorem dX1_solve_35 : decode cX1_solve 35 = .ok (.istore_n 1, 1) := by decide +kernel
theorem dX1_solve_36 : decode cX1_solve 36 = .ok (.aload_n 0, 1) := by decide +kernel
theorem dX1_solve_37 : decode cX1_solve 37 = .ok (.getfield 19, 3) := by decide +kernel
theorem dX1_solve_40 : decode cX1_solve 40 = .ok (.arraylength, 1) := by decide +kernel
theorem dX1_solve_41 : decode cX1_solve 41 = .ok (.iload_n 1, 1) := by decide +kernel
theorem dX1_solve_42 : decode cX1_solve 42 = .ok (.bipush 10, 2) := by decide +kernel
theorem dX1_solve_44 : decode cX1_solve 44 = .ok (.imul, 1) := by decide +kernel
theorem dX1_solve_45 : decode cX1_solve 45 = .ok (.if_icmp .ge 13, 3) := by decide +kernel
theorem dX1_solve_48 : decode cX1_solve 48 = .ok (.aload_n 0, 1) := by decide +kernel
theorem dX1_solve_49 : decode cX1_solve 49 = .ok (.iload_n 1, 1) := by decide +kernel
theorem dX1_solve_50 : decode cX1_solve 50 = .ok (.bipush 10, 2) := by decide +kernel
theorem dX1_solve_52 : decode cX1_solve 52 = .ok (.imul, 1) := by decide +kernel
theorem dX1_solve_53 : decode cX1_solve 53 = .ok (.newarray .int, 2) := by decide +kernel
theorem dX1_solve_55 : decode cX1_solve 55 = .ok (.putfield 19, 3) := by decide +kernel
theorem dX1_solve_58 : decode cX1_solve 58 = .ok (.iload_n 1, 1) := by decide +kernel
theorem dX1_solve_59 : decode cX1_solve 59 = .ok (.iconst 1, 1) := by decide +kernel
theorem dX1_solve_60 : decode cX1_solve 60 = .ok (.isub, 1) := by decide +kernel
theorem dX1_solve_61 : decode cX1_solve 61 = .ok (.istore_n 2, 1) := by decide +kernel
theorem dX1_solve_62 : decode cX1_solve 62 = .ok (.iload_n 2, 1) := by decide +kernel
theorem dX1_solve_63 : decode cX1_solve 63 = .ok (.ifCond .le 26, 3) := by decide +kernel
theorem dX1_solve_66 : decode cX1_solve 66 = .ok (.aload_n 0, 1) := by decide +kernel
theorem dX1_solve_67 : decode cX1_solve 67 = .ok (.iload_n 2, 1) := by decide +kernel
theorem dX1_solve_68 : decode cX1_solve 68 = .ok (.iload_n 2, 1) := by decide +kernel
theorem dX1_solve_69 : decode cX1_solve 69 = .ok (.iload_n 1, 1) := by decide +kernel
theorem dX1_solve_70 : decode cX1_solve 70 = .ok (.iconst 1, 1) := by decide +kernel
theorem dX1_solve_71 : decode cX1_solve 71 = .ok (.isub, 1) := by decide +kernel
theorem dX1_solve_72 : decode cX1_solve 72 = .ok (.if_icmp .ne 7, 3) := by decide +kernel
theorem dX1_solve_75 : decode cX1_solve 75 = .ok (.iconst 1, 1) := by decide +kernel
theorem dX1_solve_76 : decode cX1_solve 76 = .ok (.goto 4, 3) := by decide +kernel
theorem dX1_solve_79 : decode cX1_solve 79 = .ok (.iconst 0, 1) := by decide +kernel
theorem dX1_solve_80 : decode cX1_solve 80 = .ok (.invokevirtual 37, 3) := by decide +kernel
theorem dX1_solve_83 : decode cX1_solve 83 = .ok (.iinc 2 (-1), 3) := by decide +kernel
theorem dX1_solve_86 : decode cX1_solve 86 = .ok (.goto (-24), 3) := by decide +kernel
theorem dX1_solve_89 : decode cX1_solve 89 = .ok (.aload_n 0, 1) := by decide +kernel
theorem dX1_solve_90 : decode cX1_solve 90 = .ok (.invokevirtual 41, 3) := by decide +kernel
theorem dX1_solve_93 : decode cX1_solve 93 = .ok (.return_, 1) := by decide +kernel
theorem dX1_weigh_0 : decode cX1_weigh 0 = .ok (.aload_n 0, 1) := by decide +kernel
theorem dX1_weigh_1 : decode cX1_weigh 1 = .ok (.getfield 25, 3) := by decide +kernel
theorem dX1_weigh_4 : decode cX1_weigh 4 = .ok (.iload_n 1, 1) := by decide +kernel
theorem dX1_weigh_5 : decode cX1_weigh 5 = .ok (.invokevirtual 44, 3) := by decide +kernel
theorem dX1_weigh_8 : decode cX1_weigh 8 = .ok (.istore_n 3, 1) := by decide +kernel
theorem dX1_weigh_9 : decode cX1_weigh 9 = .ok (.iconst 0, 1) := by decide +kernel
theorem dX1_weigh_10 : decode cX1_weigh 10 = .ok (.istore 4, 2) := by decide +kernel
theorem dX1_weigh_12 : decode cX1_weigh 12 = .ok (.iload 4, 2) := by decide +kernel
theorem dX1_weigh_14 : decode cX1_weigh 14 = .ok (.aload_n 0, 1) := by decide +kernel
theorem dX1_weigh_15 : decode cX1_weigh 15 = .ok (.getfield 25, 3) := by decide +kernel
theorem dX1_weigh_18 : decode cX1_weigh 18 = .ok (.getfield 34, 3) := by decide +kernel
theorem dX1_weigh_21 : decode cX1_weigh 21 = .ok (.if_icmp .ge 68, 3) := by decide +kernel
theorem dX1_weigh_24 : decode cX1_weigh 24 = .ok (.iload_n 1, 1) := by decide +kernel
theorem dX1_weigh_25 : decode cX1_weigh 25 = .ok (.iload 4, 2) := by decide +kernel
theorem dX1_weigh_27 : decode cX1_weigh 27 = .ok (.ishr, 1) := by decide +kernel
theorem dX1_weigh_28 : decode cX1_weigh 28 = .ok (.iconst 1, 1) := by decide +kernel
theorem dX1_weigh_29 : decode cX1_weigh 29 = .ok (.iand, 1) := by decide +kernel
theorem dX1_weigh_30 : decode cX1_weigh 30 = .ok (.iconst 1, 1) := by decide +kernel
theorem dX1_weigh_31 : decode cX1_weigh 31 = .ok (.if_icmp .ne 52, 3) := by decide +kernel
theorem dX1_weigh_34 : decode cX1_weigh 34 = .ok (.aload_n 0, 1) := by decide +kernel
theorem dX1_weigh_35 : decode cX1_weigh 35 = .ok (.getfield 19, 3) := by decide +kernel
theorem dX1_weigh_38 : decode cX1_weigh 38 = .ok (.iload_n 1, 1) := by decide +kernel
theorem dX1_weigh_39 : decode cX1_weigh 39 = .ok (.iload 4, 2) := by decide +kernel
theorem dX1_weigh_41 : decode cX1_weigh 41 = .ok (.invokestatic 48, 3) := by decide +kernel
theorem dX1_weigh_44 : decode cX1_weigh 44 = .ok (.iload_n 2, 1) := by decide +kernel
theorem dX1_weigh_45 : decode cX1_weigh 45 = .ok (.ifCond .eq 21, 3) := by decide +kernel
theorem dX1_weigh_48 : decode cX1_weigh 48 = .ok (.iload_n 3, 1) := by decide +kernel
theorem dX1_weigh_49 : decode cX1_weigh 49 = .ok (.aload_n 0, 1) := by decide +kernel
theorem dX1_weigh_50 : decode cX1_weigh 50 = .ok (.getfield 25, 3) := by decide +kernel
theorem dX1_weigh_53 : decode cX1_weigh 53 = .ok (.getfield 52, 3) := by decide +kernel
theorem dX1_weigh_56 : decode cX1_weigh 56 = .ok (.iload 4, 2) := by decide +kernel
theorem dX1_weigh_58 : decode cX1_weigh 58 = .ok (.iaload, 1) := by decide +kernel
theorem dX1_weigh_59 : decode cX1_weigh 59 = .ok (.invokestatic 55, 3) := by decide +kernel
theorem dX1_weigh_62 : decode cX1_weigh 62 = .ok (.imul, 1) := by decide +kernel
theorem dX1_weigh_63 : decode cX1_weigh 63 = .ok (.goto 19, 3) := by decide +kernel
theorem dX1_weigh_66 : decode cX1_weigh 66 = .ok (.aload_n 0, 1) := by decide +kernel
theorem dX1_weigh_67 : decode cX1_weigh 67 = .ok (.iload_n 1, 1) := by decide +kernel
theorem dX1_weigh_68 : decode cX1_weigh 68 = .ok (.iload 4, 2) := by decide +kernel
theorem dX1_weigh_70 : decode cX1_weigh 70 = .ok (.iload_n 3, 1) := by decide +kernel
theorem dX1_weigh_71 : decode cX1_weigh 71 = .ok (.aload_n 0, 1) := by decide +kernel
theorem dX1_weigh_72 : decode cX1_weigh 72 = .ok (.iload_n 1, 1) := by decide +kernel
theorem dX1_weigh_73 : decode cX1_weigh 73 = .ok (.iload 4, 2) := by decide +kernel
theorem dX1_weigh_75 : decode cX1_weigh 75 = .ok (.iload_n 3, 1) := by decide +kernel
theorem dX1_weigh_76 : decode cX1_weigh 76 = .ok (.invokevirtual 60, 3) := by decide +kernel
theorem dX1_weigh_79 : decode cX1_weigh 79 = .ok (.invokevirtual 64, 3) := by decide +kernel
theorem dX1_weigh_82 : decode cX1_weigh 82 = .ok (.iastore, 1) := by decide +kernel
theorem dX1_weigh_83 : decode cX1_weigh 83 = .ok (.iinc 4 1, 3) := by decide +kernel
theorem dX1_weigh_86 : decode cX1_weigh 86 = .ok (.goto (-74), 3) := by decide +kernel
theorem dX1_weigh_89 : decode cX1_weigh 89 = .ok (.return_, 1) := by decide +kernel
theorem dX1_goShopping_0 : decode cX1_goShopping 0 = .ok (.iconst 0, 1) := by decide +kernel
theorem dX1_goShopping_1 : decode cX1_goShopping 1 = .ok (.istore_n 1, 1) := by decide +kernel
theorem dX1_goShopping_2 : decode cX1_goShopping 2 = .ok (.iconst 0, 1) := by decide +kernel
theorem dX1_goShopping_3 : decode cX1_goShopping 3 = .ok (.istore_n 2, 1) := by decide +kernel
theorem dX1_goShopping_4 : decode cX1_goShopping 4 = .ok (.iconst (-1), 1) := by decide +kernel
theorem dX1_goShopping_5 : decode cX1_goShopping 5 = .ok (.istore_n 3, 1) := by decide +kernel
theorem dX1_goShopping_6 : decode cX1_goShopping 6 = .ok (.aload_n 0, 1) := by decide +kernel
theorem dX1_goShopping_7 : decode cX1_goShopping 7 = .ok (.iconst 0, 1) := by decide +kernel
theorem dX1_goShopping_8 : decode cX1_goShopping 8 = .ok (.putfield 9, 3) := by decide +kernel
theorem dX1_goShopping_11 : decode cX1_goShopping 11 = .ok (.iconst 0, 1) := by decide +kernel
theorem dX1_goShopping_12 : decode cX1_goShopping 12 = .ok (.istore 4, 2) := by decide +kernel
theorem dX1_goShopping_14 : decode cX1_goShopping 14 = .ok (.iload 4, 2) := by decide +kernel
theorem dX1_goShopping_16 : decode cX1_goShopping 16 = .ok (.aload_n 0, 1) := by decide +kernel
theorem dX1_goShopping_17 : decode cX1_goShopping 17 = .ok (.getfield 25, 3) := by decide +kernel
theorem dX1_goShopping_20 : decode cX1_goShopping 20 = .ok (.getfield 34, 3) := by decide +kernel
theorem dX1_goShopping_23 : decode cX1_goShopping 23 = .ok (.if_icmp .ge 68, 3) := by decide +kernel
theorem dX1_goShopping_26 : decode cX1_goShopping 26 = .ok (.aload_n 0, 1) := by decide +kernel
theorem dX1_goShopping_27 : decode cX1_goShopping 27 = .ok (.iload_n 1, 1) := by decide +kernel
theorem dX1_goShopping_28 : decode cX1_goShopping 28 = .ok (.iload_n 3, 1) := by decide +kernel
theorem dX1_goShopping_29 : decode cX1_goShopping 29 = .ok (.iload_n 2, 1) := by decide +kernel
theorem dX1_goShopping_30 : decode cX1_goShopping 30 = .ok (.invokevirtual 60, 3) := by decide +kernel
theorem dX1_goShopping_33 : decode cX1_goShopping 33 = .ok (.istore 5, 2) := by decide +kernel
theorem dX1_goShopping_35 : decode cX1_goShopping 35 = .ok (.iload 4, 2) := by decide +kernel
theorem dX1_goShopping_37 : decode cX1_goShopping 37 = .ok (.ifCond .ne 16, 3) := by decide +kernel
theorem dX1_goShopping_40 : decode cX1_goShopping 40 = .ok (.aload_n 0, 1) := by decide +kernel
theorem dX1_goShopping_41 : decode cX1_goShopping 41 = .ok (.aload_n 0, 1) := by decide +kernel
theorem dX1_goShopping_42 : decode cX1_goShopping 42 = .ok (.iload_n 1, 1) := by decide +kernel
theorem dX1_goShopping_43 : decode cX1_goShopping 43 = .ok (.iload_n 3, 1) := by decide +kernel
theorem dX1_goShopping_44 : decode cX1_goShopping 44 = .ok (.iload_n 2, 1) := by decide +kernel
theorem dX1_goShopping_45 : decode cX1_goShopping 45 = .ok (.iload 5, 2) := by decide +kernel
theorem dX1_goShopping_47 : decode cX1_goShopping 47 = .ok (.invokevirtual 64, 3) := by decide +kernel
theorem dX1_goShopping_50 : decode cX1_goShopping 50 = .ok (.putfield 9, 3) := by decide +kernel
theorem dX1_goShopping_53 : decode cX1_goShopping 53 = .ok (.aload_n 0, 1) := by decide +kernel
theorem dX1_goShopping_54 : decode cX1_goShopping 54 = .ok (.getfield 15, 3) := by decide +kernel
theorem dX1_goShopping_57 : decode cX1_goShopping 57 = .ok (.iload 4, 2) := by decide +kernel
theorem dX1_goShopping_59 : decode cX1_goShopping 59 = .ok (.iload 5, 2) := by decide +kernel
theorem dX1_goShopping_61 : decode cX1_goShopping 61 = .ok (.iastore, 1) := by decide +kernel
theorem dX1_goShopping_62 : decode cX1_goShopping 62 = .ok (.iload_n 1, 1) := by decide +kernel
theorem dX1_goShopping_63 : decode cX1_goShopping 63 = .ok (.iconst 1, 1) := by decide +kernel
theorem dX1_goShopping_64 : decode cX1_goShopping 64 = .ok (.iload 5, 2) := by decide +kernel
theorem dX1_goShopping_66 : decode cX1_goShopping 66 = .ok (.ishl, 1) := by decide +kernel
theorem dX1_goShopping_67 : decode cX1_goShopping 67 = .ok (.ior, 1) := by decide +kernel
theorem dX1_goShopping_68 : decode cX1_goShopping 68 = .ok (.istore_n 1, 1) := by decide +kernel
theorem dX1_goShopping_69 : decode cX1_goShopping 69 = .ok (.iload_n 2, 1) := by decide +kernel
theorem dX1_goShopping_70 : decode cX1_goShopping 70 = .ok (.aload_n 0, 1) := by decide +kernel
theorem dX1_goShopping_71 : decode cX1_goShopping 71 = .ok (.getfield 25, 3) := by decide +kernel
theorem dX1_goShopping_74 : decode cX1_goShopping 74 = .ok (.getfield 68, 3) := by decide +kernel
theorem dX1_goShopping_77 : decode cX1_goShopping 77 = .ok (.iload 5, 2) := by decide +kernel
theorem dX1_goShopping_79 : decode cX1_goShopping 79 = .ok (.iaload, 1) := by decide +kernel
theorem dX1_goShopping_80 : decode cX1_goShopping 80 = .ok (.iadd, 1) := by decide +kernel
theorem dX1_goShopping_81 : decode cX1_goShopping 81 = .ok (.istore_n 2, 1) := by decide +kernel
theorem dX1_goShopping_82 : decode cX1_goShopping 82 = .ok (.iload 5, 2) := by decide +kernel
theorem dX1_goShopping_84 : decode cX1_goShopping 84 = .ok (.istore_n 3, 1) := by decide +kernel
theorem dX1_goShopping_85 : decode cX1_goShopping 85 = .ok (.iinc 4 1, 3) := by decide +kernel
theorem dX1_goShopping_88 : decode cX1_goShopping 88 = .ok (.goto (-74), 3) := by decide +kernel
theorem dX1_goShopping_91 : decode cX1_goShopping 91 = .ok (.return_, 1) := by decide +kernel
theorem dX1_nextBehind_0 : decode cX1_nextBehind 0 = .ok (.iconst 0, 1) := by decide +kernel
theorem dX1_nextBehind_1 : decode cX1_nextBehind 1 = .ok (.istore 4, 2) := by decide +kernel
theorem dX1_nextBehind_3 : decode cX1_nextBehind 3 = .ok (.ldc 71, 2) := by decide +kernel
theorem dX1_nextBehind_5 : decode cX1_nextBehind 5 = .ok (.istore 5, 2) := by decide +kernel
theorem dX1_nextBehind_7 : decode cX1_nextBehind 7 = .ok (.iconst 0, 1) := by decide +kernel
theorem dX1_nextBehind_8 : decode cX1_nextBehind 8 = .ok (.istore 6, 2) := by decide +kernel
theorem dX1_nextBehind_10 : decode cX1_nextBehind 10 = .ok (.iload 6, 2) := by decide +kernel
theorem dX1_nextBehind_12 : decode cX1_nextBehind 12 = .ok (.aload_n 0, 1) := by decide +kernel
theorem dX1_nextBehind_13 : decode cX1_nextBehind 13 = .ok (.getfield 25, 3) := by decide +kernel
theorem dX1_nextBehind_16 : decode cX1_nextBehind 16 = .ok (.getfield 34, 3) := by decide +kernel
theorem dX1_nextBehind_19 : decode cX1_nextBehind 19 = .ok (.if_icmp .ge 44, 3) := by decide +kernel
theorem dX1_nextBehind_22 : decode cX1_nextBehind 22 = .ok (.iload_n 1, 1) := by decide +kernel
theorem dX1_nextBehind_23 : decode cX1_nextBehind 23 = .ok (.iload 6, 2) := by decide +kernel
theorem dX1_nextBehind_25 : decode cX1_nextBehind 25 = .ok (.ishr, 1) := by decide +kernel
theorem dX1_nextBehind_26 : decode cX1_nextBehind 26 = .ok (.iconst 1, 1) := by decide +kernel
theorem dX1_nextBehind_27 : decode cX1_nextBehind 27 = .ok (.iand, 1) := by decide +kernel
theorem dX1_nextBehind_28 : decode cX1_nextBehind 28 = .ok (.ifCond .ne 29, 3) := by decide +kernel
theorem dX1_nextBehind_31 : decode cX1_nextBehind 31 = .ok (.aload_n 0, 1) := by decide +kernel
theorem dX1_nextBehind_32 : decode cX1_nextBehind 32 = .ok (.iload_n 1, 1) := by decide +kernel
theorem dX1_nextBehind_33 : decode cX1_nextBehind 33 = .ok (.iload_n 2, 1) := by decide +kernel
theorem dX1_nextBehind_34 : decode cX1_nextBehind 34 = .ok (.iload_n 3, 1) := by decide +kernel
theorem dX1_nextBehind_35 : decode cX1_nextBehind 35 = .ok (.iload 6, 2) := by decide +kernel
theorem dX1_nextBehind_37 : decode cX1_nextBehind 37 = .ok (.invokevirtual 64, 3) := by decide +kernel
theorem dX1_nextBehind_40 : decode cX1_nextBehind 40 = .ok (.istore 7, 2) := by decide +kernel
theorem dX1_nextBehind_42 : decode cX1_nextBehind 42 = .ok (.iload 7, 2) := by decide +kernel
theorem dX1_nextBehind_44 : decode cX1_nextBehind 44 = .ok (.iload 5, 2) := by decide +kernel
theorem dX1_nextBehind_46 : decode cX1_nextBehind 46 = .ok (.if_icmp .ge 11, 3) := by decide +kernel
theorem dX1_nextBehind_49 : decode cX1_nextBehind 49 = .ok (.iload 7, 2) := by decide +kernel
theorem dX1_nextBehind_51 : decode cX1_nextBehind 51 = .ok (.istore 5, 2) := by decide +kernel
theorem dX1_nextBehind_53 : decode cX1_nextBehind 53 = .ok (.iload 6, 2) := by decide +kernel
theorem dX1_nextBehind_55 : decode cX1_nextBehind 55 = .ok (.istore 4, 2) := by decide +kernel
theorem dX1_nextBehind_57 : decode cX1_nextBehind 57 = .ok (.iinc 6 1, 3) := by decide +kernel
theorem dX1_nextBehind_60 : decode cX1_nextBehind 60 = .ok (.goto (-50), 3) := by decide +kernel
theorem dX1_nextBehind_63 : decode cX1_nextBehind 63 = .ok (.iload 4, 2) := by decide +kernel
theorem dX1_nextBehind_65 : decode cX1_nextBehind 65 = .ok (.ireturn, 1) := by decide +kernel
theorem dX1_costBy_0 : decode cX1_costBy 0 = .ok (.iload_n 2, 1) := by decide +kernel
theorem dX1_costBy_1 : decode cX1_costBy 1 = .ok (.ifCond .ge 7, 3) := by decide +kernel
theorem dX1_costBy_4 : decode cX1_costBy 4 = .ok (.iconst 0, 1) := by decide +kernel
theorem dX1_costBy_5 : decode cX1_costBy 5 = .ok (.goto 12, 3) := by decide +kernel
theorem dX1_costBy_8 : decode cX1_costBy 8 = .ok (.aload_n 0, 1) := by decide +kernel
theorem dX1_costBy_9 : decode cX1_costBy 9 = .ok (.getfield 25, 3) := by decide +kernel
theorem dX1_costBy_12 : decode cX1_costBy 12 = .ok (.getfield 52, 3) := by decide +kernel
theorem dX1_costBy_15 : decode cX1_costBy 15 = .ok (.iload_n 2, 1) := by decide +kernel
theorem dX1_costBy_16 : decode cX1_costBy 16 = .ok (.iaload, 1) := by decide +kernel
theorem dX1_costBy_17 : decode cX1_costBy 17 = .ok (.istore 5, 2) := by decide +kernel
theorem dX1_costBy_19 : decode cX1_costBy 19 = .ok (.iload_n 3, 1) := by decide +kernel
theorem dX1_costBy_20 : decode cX1_costBy 20 = .ok (.aload_n 0, 1) := by decide +kernel
theorem dX1_costBy_21 : decode cX1_costBy 21 = .ok (.getfield 25, 3) := by decide +kernel
theorem dX1_costBy_24 : decode cX1_costBy 24 = .ok (.getfield 52, 3) := by decide +kernel
theorem dX1_costBy_27 : decode cX1_costBy 27 = .ok (.iload 4, 2) := by decide +kernel
theorem dX1_costBy_29 : decode cX1_costBy 29 = .ok (.iaload, 1) := by decide +kernel
theorem dX1_costBy_30 : decode cX1_costBy 30 = .ok (.iload 5, 2) := by decide +kernel
theorem dX1_costBy_32 : decode cX1_costBy 32 = .ok (.isub, 1) := by decide +kernel
theorem dX1_costBy_33 : decode cX1_costBy 33 = .ok (.invokestatic 55, 3) := by decide +kernel
theorem dX1_costBy_36 : decode cX1_costBy 36 = .ok (.imul, 1) := by decide +kernel
theorem dX1_costBy_37 : decode cX1_costBy 37 = .ok (.aload_n 0, 1) := by decide +kernel
theorem dX1_costBy_38 : decode cX1_costBy 38 = .ok (.getfield 19, 3) := by decide +kernel
theorem dX1_costBy_41 : decode cX1_costBy 41 = .ok (.iload_n 1, 1) := by decide +kernel
theorem dX1_costBy_42 : decode cX1_costBy 42 = .ok (.iconst 1, 1) := by decide +kernel
theorem dX1_costBy_43 : decode cX1_costBy 43 = .ok (.iload 4, 2) := by decide +kernel
theorem dX1_costBy_45 : decode cX1_costBy 45 = .ok (.ishl, 1) := by decide +kernel
theorem dX1_costBy_46 : decode cX1_costBy 46 = .ok (.ior, 1) := by decide +kernel
theorem dX1_costBy_47 : decode cX1_costBy 47 = .ok (.iload 4, 2) := by decide +kernel
theorem dX1_costBy_49 : decode cX1_costBy 49 = .ok (.invokestatic 48, 3) := by decide +kernel
theorem dX1_costBy_52 : decode cX1_costBy 52 = .ok (.iaload, 1) := by decide +kernel
theorem dX1_costBy_53 : decode cX1_costBy 53 = .ok (.iadd, 1) := by decide +kernel
theorem dX1_costBy_54 : decode cX1_costBy 54 = .ok (.ireturn, 1) := by decide +kernel
theorem dX1_at_0 : decode cX1_at 0 = .ok (.iload_n 0, 1) := by decide +kernel
theorem dX1_at_1 : decode cX1_at 1 = .ok (.bipush 10, 2) := by decide +kernel
theorem dX1_at_3 : decode cX1_at 3 = .ok (.imul, 1) := by decide +kernel
theorem dX1_at_4 : decode cX1_at 4 = .ok (.iload_n 1, 1) := by decide +kernel
theorem dX1_at_5 : decode cX1_at 5 = .ok (.iadd, 1) := by decide +kernel
theorem dX1_at_6 : decode cX1_at 6 = .ok (.ireturn, 1) := by decide +kernel
theorem dX2_init_0 : decode cX2_init 0 = .ok (.aload_n 0, 1) := by decide +kernel
theorem dX2_init_1 : decode cX2_init 1 = .ok (.invokespecial 3, 3) := by decide +kernel
theorem dX2_init_4 : decode cX2_init 4 = .ok (.aload_n 0, 1) := by decide +kernel
theorem dX2_init_5 : decode cX2_init 5 = .ok (.iconst 0, 1) := by decide +kernel
theorem dX2_init_6 : decode cX2_init 6 = .ok (.putfield 9, 3) := by decide +kernel
theorem dX2_init_9 : decode cX2_init 9 = .ok (.aload_n 0, 1) := by decide +kernel
theorem dX2_init_10 : decode cX2_init 10 = .ok (.bipush 8, 2) := by decide +kernel
theorem dX2_init_12 : decode cX2_init 12 = .ok (.newarray .int, 2) := by decide +kernel
theorem dX2_init_14 : decode cX2_init 14 = .ok (.putfield 15, 3) := by decide +kernel
theorem dX2_init_17 : decode cX2_init 17 = .ok (.aload_n 0, 1) := by decide +kernel
theorem dX2_init_18 : decode cX2_init 18 = .ok (.sipush 256, 3) := by decide +kernel
theorem dX2_init_21 : decode cX2_init 21 = .ok (.newarray .int, 2) := by decide +kernel
theorem dX2_init_23 : decode cX2_init 23 = .ok (.putfield 19, 3) := by decide +kernel
theorem dX2_init_26 : decode cX2_init 26 = .ok (.aload_n 0, 1) := by decide +kernel
theorem dX2_init_27 : decode cX2_init 27 = .ok (.aload_n 1, 1) := by decide +kernel
theorem dX2_init_28 : decode cX2_init 28 = .ok (.putfield 22, 3) := by decide +kernel
theorem dX2_init_31 : decode cX2_init 31 = .ok (.return_, 1) := by decide +kernel
theorem dX2_seat_0 : decode cX2_seat 0 = .ok (.iconst 0, 1) := by decide +kernel
theorem dX2_seat_1 : decode cX2_seat 1 = .ok (.istore_n 3, 1) := by decide +kernel
theorem dX2_seat_2 : decode cX2_seat 2 = .ok (.aload_n 0, 1) := by decide +kernel
theorem dX2_seat_3 : decode cX2_seat 3 = .ok (.iconst 0, 1) := by decide +kernel
theorem dX2_seat_4 : decode cX2_seat 4 = .ok (.putfield 9, 3) := by decide +kernel
theorem dX2_seat_7 : decode cX2_seat 7 = .ok (.iconst 0, 1) := by decide +kernel
theorem dX2_seat_8 : decode cX2_seat 8 = .ok (.istore 4, 2) := by decide +kernel
theorem dX2_seat_10 : decode cX2_seat 10 = .ok (.iload 4, 2) := by decide +kernel
theorem dX2_seat_12 : decode cX2_seat 12 = .ok (.bipush 8, 2) := by decide +kernel
theorem dX2_seat_14 : decode cX2_seat 14 = .ok (.if_icmp .ge 97, 3) := by decide +kernel
theorem dX2_seat_17 : decode cX2_seat 17 = .ok (.aload_n 1, 1) := by decide +kernel
theorem dX2_seat_18 : decode cX2_seat 18 = .ok (.getfield 26, 3) := by decide +kernel
theorem dX2_seat_21 : decode cX2_seat 21 = .ok (.iload_n 2, 1) := by decide +kernel
theorem dX2_seat_22 : decode cX2_seat 22 = .ok (.iload 4, 2) := by decide +kernel
theorem dX2_seat_24 : decode cX2_seat 24 = .ok (.iadd, 1) := by decide +kernel
theorem dX2_seat_25 : decode cX2_seat 25 = .ok (.laload, 1) := by decide +kernel
theorem dX2_seat_26 : decode cX2_seat 26 = .ok (.lstore 5, 2) := by decide +kernel
theorem dX2_seat_28 : decode cX2_seat 28 = .ok (.lload 5, 2) := by decide +kernel
theorem dX2_seat_30 : decode cX2_seat 30 = .ok (.aload_n 0, 1) := by decide +kernel
theorem dX2_seat_31 : decode cX2_seat 31 = .ok (.getfield 22, 3) := by decide +kernel
theorem dX2_seat_34 : decode cX2_seat 34 = .ok (.getfield 32, 3) := by decide +kernel
theorem dX2_seat_37 : decode cX2_seat 37 = .ok (.i2l, 1) := by decide +kernel
theorem dX2_seat_38 : decode cX2_seat 38 = .ok (.lcmp, 1) := by decide +kernel
theorem dX2_seat_39 : decode cX2_seat 39 = .ok (.ifCond .lt 5, 3) := by decide +kernel
theorem dX2_seat_42 : decode cX2_seat 42 = .ok (.iconst 0, 1) := by decide +kernel
theorem dX2_seat_43 : decode cX2_seat 43 = .ok (.ireturn, 1) := by decide +kernel
theorem dX2_seat_44 : decode cX2_seat 44 = .ok (.lload 5, 2) := by decide +kernel
theorem dX2_seat_46 : decode cX2_seat 46 = .ok (.lconst 0, 1) := by decide +kernel
theorem dX2_seat_47 : decode cX2_seat 47 = .ok (.lcmp, 1) := by decide +kernel
theorem dX2_seat_48 : decode cX2_seat 48 = .ok (.ifCond .lt 57, 3) := by decide +kernel
theorem dX2_seat_51 : decode cX2_seat 51 = .ok (.lload 5, 2) := by decide +kernel
theorem dX2_seat_53 : decode cX2_seat 53 = .ok (.l2i, 1) := by decide +kernel
theorem dX2_seat_54 : decode cX2_seat 54 = .ok (.istore 7, 2) := by decide +kernel
theorem dX2_seat_56 : decode cX2_seat 56 = .ok (.iload_n 3, 1) := by decide +kernel
theorem dX2_seat_57 : decode cX2_seat 57 = .ok (.iload 7, 2) := by decide +kernel
theorem dX2_seat_59 : decode cX2_seat 59 = .ok (.ishr, 1) := by decide +kernel
theorem dX2_seat_60 : decode cX2_seat 60 = .ok (.iconst 1, 1) := by decide +kernel
theorem dX2_seat_61 : decode cX2_seat 61 = .ok (.iand, 1) := by decide +kernel
theorem dX2_seat_62 : decode cX2_seat 62 = .ok (.iconst 1, 1) := by decide +kernel
theorem dX2_seat_63 : decode cX2_seat 63 = .ok (.if_icmp .ne 5, 3) := by decide +kernel
theorem dX2_seat_66 : decode cX2_seat 66 = .ok (.iconst 0, 1) := by decide +kernel
theorem dX2_seat_67 : decode cX2_seat 67 = .ok (.ireturn, 1) := by decide +kernel
theorem dX2_seat_68 : decode cX2_seat 68 = .ok (.iload_n 3, 1) := by decide +kernel
theorem dX2_seat_69 : decode cX2_seat 69 = .ok (.iconst 1, 1) := by decide +kernel
theorem dX2_seat_70 : decode cX2_seat 70 = .ok (.iload 7, 2) := by decide +kernel
theorem dX2_seat_72 : decode cX2_seat 72 = .ok (.ishl, 1) := by decide +kernel
theorem dX2_seat_73 : decode cX2_seat 73 = .ok (.ior, 1) := by decide +kernel
theorem dX2_seat_74 : decode cX2_seat 74 = .ok (.istore_n 3, 1) := by decide +kernel
theorem dX2_seat_75 : decode cX2_seat 75 = .ok (.aload_n 0, 1) := by decide +kernel
theorem dX2_seat_76 : decode cX2_seat 76 = .ok (.dup, 1) := by decide +kernel
theorem dX2_seat_77 : decode cX2_seat 77 = .ok (.getfield 9, 3) := by decide +kernel
theorem dX2_seat_80 : decode cX2_seat 80 = .ok (.iconst 1, 1) := by decide +kernel
theorem dX2_seat_81 : decode cX2_seat 81 = .ok (.iload 4, 2) := by decide +kernel
theorem dX2_seat_83 : decode cX2_seat 83 = .ok (.ishl, 1) := by decide +kernel
theorem dX2_seat_84 : decode cX2_seat 84 = .ok (.ior, 1) := by decide +kernel
theorem dX2_seat_85 : decode cX2_seat 85 = .ok (.putfield 9, 3) := by decide +kernel
theorem dX2_seat_88 : decode cX2_seat 88 = .ok (.aload_n 0, 1) := by decide +kernel
theorem dX2_seat_89 : decode cX2_seat 89 = .ok (.getfield 15, 3) := by decide +kernel
theorem dX2_seat_92 : decode cX2_seat 92 = .ok (.iload 4, 2) := by decide +kernel
theorem dX2_seat_94 : decode cX2_seat 94 = .ok (.aload_n 0, 1) := by decide +kernel
theorem dX2_seat_95 : decode cX2_seat 95 = .ok (.getfield 22, 3) := by decide +kernel
theorem dX2_seat_98 : decode cX2_seat 98 = .ok (.getfield 37, 3) := by decide +kernel
theorem dX2_seat_101 : decode cX2_seat 101 = .ok (.iload 7, 2) := by decide +kernel
theorem dX2_seat_103 : decode cX2_seat 103 = .ok (.iaload, 1) := by decide +kernel
theorem dX2_seat_104 : decode cX2_seat 104 = .ok (.iastore, 1) := by decide +kernel
theorem dX2_seat_105 : decode cX2_seat 105 = .ok (.iinc 4 1, 3) := by decide +kernel
theorem dX2_seat_108 : decode cX2_seat 108 = .ok (.goto (-98), 3) := by decide +kernel
theorem dX2_seat_111 : decode cX2_seat 111 = .ok (.iconst 1, 1) := by decide +kernel
theorem dX2_seat_112 : decode cX2_seat 112 = .ok (.ireturn, 1) := by decide +kernel
theorem dX2_tips_0 : decode cX2_tips 0 = .ok (.iconst 0, 1) := by decide +kernel
theorem dX2_tips_1 : decode cX2_tips 1 = .ok (.istore_n 3, 1) := by decide +kernel
theorem dX2_tips_2 : decode cX2_tips 2 = .ok (.iconst 0, 1) := by decide +kernel
theorem dX2_tips_3 : decode cX2_tips 3 = .ok (.istore 4, 2) := by decide +kernel
theorem dX2_tips_5 : decode cX2_tips 5 = .ok (.iconst 0, 1) := by decide +kernel
theorem dX2_tips_6 : decode cX2_tips 6 = .ok (.istore 5, 2) := by decide +kernel
theorem dX2_tips_8 : decode cX2_tips 8 = .ok (.iload 5, 2) := by decide +kernel
theorem dX2_tips_10 : decode cX2_tips 10 = .ok (.bipush 8, 2) := by decide +kernel
theorem dX2_tips_12 : decode cX2_tips 12 = .ok (.if_icmp .ge 55, 3) := by decide +kernel
theorem dX2_tips_15 : decode cX2_tips 15 = .ok (.iload_n 1, 1) := by decide +kernel
theorem dX2_tips_16 : decode cX2_tips 16 = .ok (.iload 5, 2) := by decide +kernel
theorem dX2_tips_18 : decode cX2_tips 18 = .ok (.ishr, 1) := by decide +kernel
theorem dX2_tips_19 : decode cX2_tips 19 = .ok (.iconst 1, 1) := by decide +kernel
theorem dX2_tips_20 : decode cX2_tips 20 = .ok (.iand, 1) := by decide +kernel
theorem dX2_tips_21 : decode cX2_tips 21 = .ok (.iconst 1, 1) := by decide +kernel
theorem dX2_tips_22 : decode cX2_tips 22 = .ok (.if_icmp .ne 39, 3) := by decide +kernel
theorem dX2_tips_25 : decode cX2_tips 25 = .ok (.iload_n 3, 1) := by decide +kernel
theorem dX2_tips_26 : decode cX2_tips 26 = .ok (.aload_n 0, 1) := by decide +kernel
theorem dX2_tips_27 : decode cX2_tips 27 = .ok (.getfield 15, 3) := by decide +kernel
theorem dX2_tips_30 : decode cX2_tips 30 = .ok (.iload 5, 2) := by decide +kernel
theorem dX2_tips_32 : decode cX2_tips 32 = .ok (.iaload, 1) := by decide +kernel
theorem dX2_tips_33 : decode cX2_tips 33 = .ok (.getstatic 40, 3) := by decide +kernel
theorem dX2_tips_36 : decode cX2_tips 36 = .ok (.iload 5, 2) := by decide +kernel
theorem dX2_tips_38 : decode cX2_tips 38 = .ok (.iaload, 1) := by decide +kernel
theorem dX2_tips_39 : decode cX2_tips 39 = .ok (.imul, 1) := by decide +kernel
theorem dX2_tips_40 : decode cX2_tips 40 = .ok (.iadd, 1) := by decide +kernel
theorem dX2_tips_41 : decode cX2_tips 41 = .ok (.istore_n 3, 1) := by decide +kernel
theorem dX2_tips_42 : decode cX2_tips 42 = .ok (.iload 4, 2) := by decide +kernel
theorem dX2_tips_44 : decode cX2_tips 44 = .ok (.aload_n 0, 1) := by decide +kernel
theorem dX2_tips_45 : decode cX2_tips 45 = .ok (.getfield 15, 3) := by decide +kernel
theorem dX2_tips_48 : decode cX2_tips 48 = .ok (.iload 5, 2) := by decide +kernel
theorem dX2_tips_50 : decode cX2_tips 50 = .ok (.iaload, 1) := by decide +kernel
theorem dX2_tips_51 : decode cX2_tips 51 = .ok (.getstatic 43, 3) := by decide +kernel
theorem dX2_tips_54 : decode cX2_tips 54 = .ok (.iload 5, 2) := by decide +kernel
theorem dX2_tips_56 : decode cX2_tips 56 = .ok (.iaload, 1) := by decide +kernel
theorem dX2_tips_57 : decode cX2_tips 57 = .ok (.imul, 1) := by decide +kernel
theorem dX2_tips_58 : decode cX2_tips 58 = .ok (.iadd, 1) := by decide +kernel
theorem dX2_tips_59 : decode cX2_tips 59 = .ok (.istore 4, 2) := by decide +kernel
theorem dX2_tips_61 : decode cX2_tips 61 = .ok (.iinc 5 1, 3) := by decide +kernel
theorem dX2_tips_64 : decode cX2_tips 64 = .ok (.goto (-56), 3) := by decide +kernel
theorem dX2_tips_67 : decode cX2_tips 67 = .ok (.iload_n 3, 1) := by decide +kernel
theorem dX2_tips_68 : decode cX2_tips 68 = .ok (.invokestatic 46, 3) := by decide +kernel
theorem dX2_tips_71 : decode cX2_tips 71 = .ok (.iload_n 2, 1) := by decide +kernel
theorem dX2_tips_72 : decode cX2_tips 72 = .ok (.if_icmp .gt 12, 3) := by decide +kernel
theorem dX2_tips_75 : decode cX2_tips 75 = .ok (.iload 4, 2) := by decide +kernel
theorem dX2_tips_77 : decode cX2_tips 77 = .ok (.invokestatic 46, 3) := by decide +kernel
theorem dX2_tips_80 : decode cX2_tips 80 = .ok (.iload_n 2, 1) := by decide +kernel
theorem dX2_tips_81 : decode cX2_tips 81 = .ok (.if_icmp .le 7, 3) := by decide +kernel
theorem dX2_tips_84 : decode cX2_tips 84 = .ok (.iconst 1, 1) := by decide +kernel
theorem dX2_tips_85 : decode cX2_tips 85 = .ok (.goto 4, 3) := by decide +kernel
theorem dX2_tips_88 : decode cX2_tips 88 = .ok (.iconst 0, 1) := by decide +kernel
theorem dX2_tips_89 : decode cX2_tips 89 = .ok (.ireturn, 1) := by decide +kernel
theorem dX2_orders_0 : decode cX2_orders 0 = .ok (.aload_n 0, 1) := by decide +kernel
theorem dX2_orders_1 : decode cX2_orders 1 = .ok (.getfield 19, 3) := by decide +kernel
theorem dX2_orders_4 : decode cX2_orders 4 = .ok (.iconst 0, 1) := by decide +kernel
theorem dX2_orders_5 : decode cX2_orders 5 = .ok (.iconst 1, 1) := by decide +kernel
theorem dX2_orders_6 : decode cX2_orders 6 = .ok (.iastore, 1) := by decide +kernel
theorem dX2_orders_7 : decode cX2_orders 7 = .ok (.iconst 1, 1) := by decide +kernel
theorem dX2_orders_8 : decode cX2_orders 8 = .ok (.istore_n 2, 1) := by decide +kernel
theorem dX2_orders_9 : decode cX2_orders 9 = .ok (.iload_n 2, 1) := by decide +kernel
theorem dX2_orders_10 : decode cX2_orders 10 = .ok (.aload_n 0, 1) := by decide +kernel
theorem dX2_orders_11 : decode cX2_orders 11 = .ok (.getfield 9, 3) := by decide +kernel
theorem dX2_orders_14 : decode cX2_orders 14 = .ok (.if_icmp .gt 44, 3) := by decide +kernel
theorem dX2_orders_17 : decode cX2_orders 17 = .ok (.iload_n 2, 1) := by decide +kernel
theorem dX2_orders_18 : decode cX2_orders 18 = .ok (.aload_n 0, 1) := by decide +kernel
theorem dX2_orders_19 : decode cX2_orders 19 = .ok (.getfield 9, 3) := by decide +kernel
theorem dX2_orders_22 : decode cX2_orders 22 = .ok (.iconst (-1), 1) := by decide +kernel
theorem dX2_orders_23 : decode cX2_orders 23 = .ok (.ixor, 1) := by decide +kernel
theorem dX2_orders_24 : decode cX2_orders 24 = .ok (.iand, 1) := by decide +kernel
theorem dX2_orders_25 : decode cX2_orders 25 = .ok (.ifCond .ne 27, 3) := by decide +kernel
theorem dX2_orders_28 : decode cX2_orders 28 = .ok (.aload_n 0, 1) := by decide +kernel
theorem dX2_orders_29 : decode cX2_orders 29 = .ok (.getfield 19, 3) := by decide +kernel
theorem dX2_orders_32 : decode cX2_orders 32 = .ok (.iload_n 2, 1) := by decide +kernel
theorem dX2_orders_33 : decode cX2_orders 33 = .ok (.aload_n 0, 1) := by decide +kernel
theorem dX2_orders_34 : decode cX2_orders 34 = .ok (.iload_n 2, 1) := by decide +kernel
theorem dX2_orders_35 : decode cX2_orders 35 = .ok (.iload_n 1, 1) := by decide +kernel
theorem dX2_orders_36 : decode cX2_orders 36 = .ok (.invokevirtual 52, 3) := by decide +kernel
theorem dX2_orders_39 : decode cX2_orders 39 = .ok (.ifCond .eq 7, 3) := by decide +kernel
theorem dX2_orders_42 : decode cX2_orders 42 = .ok (.iconst 0, 1) := by decide +kernel
theorem dX2_orders_43 : decode cX2_orders 43 = .ok (.goto 8, 3) := by decide +kernel
theorem dX2_orders_46 : decode cX2_orders 46 = .ok (.aload_n 0, 1) := by decide +kernel
theorem dX2_orders_47 : decode cX2_orders 47 = .ok (.iload_n 2, 1) := by decide +kernel
theorem dX2_orders_48 : decode cX2_orders 48 = .ok (.invokevirtual 56, 3) := by decide +kernel
theorem dX2_orders_51 : decode cX2_orders 51 = .ok (.iastore, 1) := by decide +kernel
theorem dX2_orders_52 : decode cX2_orders 52 = .ok (.iinc 2 1, 3) := by decide +kernel
theorem dX2_orders_55 : decode cX2_orders 55 = .ok (.goto (-46), 3) := by decide +kernel
theorem dX2_orders_58 : decode cX2_orders 58 = .ok (.aload_n 0, 1) := by decide +kernel
theorem dX2_orders_59 : decode cX2_orders 59 = .ok (.getfield 19, 3) := by decide +kernel
theorem dX2_orders_62 : decode cX2_orders 62 = .ok (.aload_n 0, 1) := by decide +kernel
theorem dX2_orders_63 : decode cX2_orders 63 = .ok (.getfield 9, 3) := by decide +kernel
theorem dX2_orders_66 : decode cX2_orders 66 = .ok (.iaload, 1) := by decide +kernel
theorem dX2_orders_67 : decode cX2_orders 67 = .ok (.ireturn, 1) := by decide +kernel
theorem dX2_waysWithoutOne_0 : decode cX2_waysWithoutOne 0 = .ok (.iconst 0, 1) := by decide +kernel
theorem dX2_waysWithoutOne_1 : decode cX2_waysWithoutOne 1 = .ok (.istore_n 2, 1) := by decide +kernel
theorem dX2_waysWithoutOne_2 : decode cX2_waysWithoutOne 2 = .ok (.iconst 0, 1) := by decide +kernel
theorem dX2_waysWithoutOne_3 : decode cX2_waysWithoutOne 3 = .ok (.istore_n 3, 1) := by decide +kernel
theorem dX2_waysWithoutOne_4 : decode cX2_waysWithoutOne 4 = .ok (.iload_n 3, 1) := by decide +kernel
theorem dX2_waysWithoutOne_5 : decode cX2_waysWithoutOne 5 = .ok (.bipush 8, 2) := by decide +kernel
theorem dX2_waysWithoutOne_7 : decode cX2_waysWithoutOne 7 = .ok (.if_icmp .ge 37, 3) := by decide +kernel
theorem dX2_waysWithoutOne_10 : decode cX2_waysWithoutOne 10 = .ok (.iload_n 2, 1) := by decide +kernel
theorem dX2_waysWithoutOne_11 : decode cX2_waysWithoutOne 11 = .ok (.iload_n 1, 1) := by decide +kernel
theorem dX2_waysWithoutOne_12 : decode cX2_waysWithoutOne 12 = .ok (.iload_n 3, 1) := by decide +kernel
theorem dX2_waysWithoutOne_13 : decode cX2_waysWithoutOne 13 = .ok (.ishr, 1) := by decide +kernel
theorem dX2_waysWithoutOne_14 : decode cX2_waysWithoutOne 14 = .ok (.iconst 1, 1) := by decide +kernel
theorem dX2_waysWithoutOne_15 : decode cX2_waysWithoutOne 15 = .ok (.iand, 1) := by decide +kernel
theorem dX2_waysWithoutOne_16 : decode cX2_waysWithoutOne 16 = .ok (.iconst 1, 1) := by decide +kernel
theorem dX2_waysWithoutOne_17 : decode cX2_waysWithoutOne 17 = .ok (.if_icmp .ne 18, 3) := by decide +kernel
theorem dX2_waysWithoutOne_20 : decode cX2_waysWithoutOne 20 = .ok (.aload_n 0, 1) := by decide +kernel
theorem dX2_waysWithoutOne_21 : decode cX2_waysWithoutOne 21 = .ok (.getfield 19, 3) := by decide +kernel
theorem dX2_waysWithoutOne_24 : decode cX2_waysWithoutOne 24 = .ok (.iload_n 1, 1) := by decide +kernel
theorem dX2_waysWithoutOne_25 : decode cX2_waysWithoutOne 25 = .ok (.iconst 1, 1) := by decide +kernel
theorem dX2_waysWithoutOne_26 : decode cX2_waysWithoutOne 26 = .ok (.iload_n 3, 1) := by decide +kernel
theorem dX2_waysWithoutOne_27 : decode cX2_waysWithoutOne 27 = .ok (.ishl, 1) := by decide +kernel
theorem dX2_waysWithoutOne_28 : decode cX2_waysWithoutOne 28 = .ok (.iconst (-1), 1) := by decide +kernel
theorem dX2_waysWithoutOne_29 : decode cX2_waysWithoutOne 29 = .ok (.ixor, 1) := by decide +kernel
theorem dX2_waysWithoutOne_30 : decode cX2_waysWithoutOne 30 = .ok (.iand, 1) := by decide +kernel
theorem dX2_waysWithoutOne_31 : decode cX2_waysWithoutOne 31 = .ok (.iaload, 1) := by decide +kernel
theorem dX2_waysWithoutOne_32 : decode cX2_waysWithoutOne 32 = .ok (.goto 4, 3) := by decide +kernel
theorem dX2_waysWithoutOne_35 : decode cX2_waysWithoutOne 35 = .ok (.iconst 0, 1) := by decide +kernel
theorem dX2_waysWithoutOne_36 : decode cX2_waysWithoutOne 36 = .ok (.iadd, 1) := by decide +kernel
theorem dX2_waysWithoutOne_37 : decode cX2_waysWithoutOne 37 = .ok (.istore_n 2, 1) := by decide +kernel
theorem dX2_waysWithoutOne_38 : decode cX2_waysWithoutOne 38 = .ok (.iinc 3 1, 3) := by decide +kernel
theorem dX2_waysWithoutOne_41 : decode cX2_waysWithoutOne 41 = .ok (.goto (-37), 3) := by decide +kernel
theorem dX2_waysWithoutOne_44 : decode cX2_waysWithoutOne 44 = .ok (.iload_n 2, 1) := by decide +kernel
theorem dX2_waysWithoutOne_45 : decode cX2_waysWithoutOne 45 = .ok (.ireturn, 1) := by decide +kernel
theorem dX2_safe_0 : decode cX2_safe 0 = .ok (.iconst 0, 1) := by decide +kernel
theorem dX2_safe_1 : decode cX2_safe 1 = .ok (.istore_n 2, 1) := by decide +kernel
theorem dX2_safe_2 : decode cX2_safe 2 = .ok (.iconst 0, 1) := by decide +kernel
theorem dX2_safe_3 : decode cX2_safe 3 = .ok (.istore_n 3, 1) := by decide +kernel
theorem dX2_safe_4 : decode cX2_safe 4 = .ok (.iload_n 3, 1) := by decide +kernel
theorem dX2_safe_5 : decode cX2_safe 5 = .ok (.bipush 8, 2) := by decide +kernel
theorem dX2_safe_7 : decode cX2_safe 7 = .ok (.if_icmp .ge 45, 3) := by decide +kernel
theorem dX2_safe_10 : decode cX2_safe 10 = .ok (.aload_n 0, 1) := by decide +kernel
theorem dX2_safe_11 : decode cX2_safe 11 = .ok (.getfield 9, 3) := by decide +kernel
theorem dX2_safe_14 : decode cX2_safe 14 = .ok (.iload_n 3, 1) := by decide +kernel
theorem dX2_safe_15 : decode cX2_safe 15 = .ok (.ishr, 1) := by decide +kernel
theorem dX2_safe_16 : decode cX2_safe 16 = .ok (.iconst 1, 1) := by decide +kernel
theorem dX2_safe_17 : decode cX2_safe 17 = .ok (.iand, 1) := by decide +kernel
theorem dX2_safe_18 : decode cX2_safe 18 = .ok (.iconst 1, 1) := by decide +kernel
theorem dX2_safe_19 : decode cX2_safe 19 = .ok (.if_icmp .ne 27, 3) := by decide +kernel
theorem dX2_safe_22 : decode cX2_safe 22 = .ok (.aload_n 0, 1) := by decide +kernel
theorem dX2_safe_23 : decode cX2_safe 23 = .ok (.aload_n 0, 1) := by decide +kernel
theorem dX2_safe_24 : decode cX2_safe 24 = .ok (.getfield 9, 3) := by decide +kernel
theorem dX2_safe_27 : decode cX2_safe 27 = .ok (.iconst 1, 1) := by decide +kernel
theorem dX2_safe_28 : decode cX2_safe 28 = .ok (.iload_n 3, 1) := by decide +kernel
theorem dX2_safe_29 : decode cX2_safe 29 = .ok (.ishl, 1) := by decide +kernel
theorem dX2_safe_30 : decode cX2_safe 30 = .ok (.iconst (-1), 1) := by decide +kernel
theorem dX2_safe_31 : decode cX2_safe 31 = .ok (.ixor, 1) := by decide +kernel
theorem dX2_safe_32 : decode cX2_safe 32 = .ok (.iand, 1) := by decide +kernel
theorem dX2_safe_33 : decode cX2_safe 33 = .ok (.iload_n 1, 1) := by decide +kernel
theorem dX2_safe_34 : decode cX2_safe 34 = .ok (.invokevirtual 52, 3) := by decide +kernel
theorem dX2_safe_37 : decode cX2_safe 37 = .ok (.ifCond .ne 9, 3) := by decide +kernel
theorem dX2_safe_40 : decode cX2_safe 40 = .ok (.iload_n 2, 1) := by decide +kernel
theorem dX2_safe_41 : decode cX2_safe 41 = .ok (.iconst 1, 1) := by decide +kernel
theorem dX2_safe_42 : decode cX2_safe 42 = .ok (.iload_n 3, 1) := by decide +kernel
theorem dX2_safe_43 : decode cX2_safe 43 = .ok (.ishl, 1) := by decide +kernel
theorem dX2_safe_44 : decode cX2_safe 44 = .ok (.ior, 1) := by decide +kernel
theorem dX2_safe_45 : decode cX2_safe 45 = .ok (.istore_n 2, 1) := by decide +kernel
theorem dX2_safe_46 : decode cX2_safe 46 = .ok (.iinc 3 1, 3) := by decide +kernel
theorem dX2_safe_49 : decode cX2_safe 49 = .ok (.goto (-45), 3) := by decide +kernel
theorem dX2_safe_52 : decode cX2_safe 52 = .ok (.iload_n 2, 1) := by decide +kernel
theorem dX2_safe_53 : decode cX2_safe 53 = .ok (.ireturn, 1) := by decide +kernel
theorem dX3_init_0 : decode cX3_init 0 = .ok (.aload_n 0, 1) := by decide +kernel
theorem dX3_init_1 : decode cX3_init 1 = .ok (.invokespecial 3, 3) := by decide +kernel
theorem dX3_init_4 : decode cX3_init 4 = .ok (.aload_n 0, 1) := by decide +kernel
theorem dX3_init_5 : decode cX3_init 5 = .ok (.iconst 0, 1) := by decide +kernel
theorem dX3_init_6 : decode cX3_init 6 = .ok (.putfield 9, 3) := by decide +kernel
theorem dX3_init_9 : decode cX3_init 9 = .ok (.aload_n 0, 1) := by decide +kernel
theorem dX3_init_10 : decode cX3_init 10 = .ok (.iconst 0, 1) := by decide +kernel
theorem dX3_init_11 : decode cX3_init 11 = .ok (.putfield 15, 3) := by decide +kernel
theorem dX3_init_14 : decode cX3_init 14 = .ok (.aload_n 0, 1) := by decide +kernel
theorem dX3_init_15 : decode cX3_init 15 = .ok (.bipush 10, 2) := by decide +kernel
theorem dX3_init_17 : decode cX3_init 17 = .ok (.newarray .int, 2) := by decide +kernel
theorem dX3_init_19 : decode cX3_init 19 = .ok (.putfield 18, 3) := by decide +kernel
theorem dX3_init_22 : decode cX3_init 22 = .ok (.aload_n 0, 1) := by decide +kernel
theorem dX3_init_23 : decode cX3_init 23 = .ok (.bipush 10, 2) := by decide +kernel
theorem dX3_init_25 : decode cX3_init 25 = .ok (.newarray .int, 2) := by decide +kernel
theorem dX3_init_27 : decode cX3_init 27 = .ok (.putfield 22, 3) := by decide +kernel
theorem dX3_init_30 : decode cX3_init 30 = .ok (.aload_n 0, 1) := by decide +kernel
theorem dX3_init_31 : decode cX3_init 31 = .ok (.bipush 10, 2) := by decide +kernel
theorem dX3_init_33 : decode cX3_init 33 = .ok (.newarray .int, 2) := by decide +kernel
theorem dX3_init_35 : decode cX3_init 35 = .ok (.putfield 25, 3) := by decide +kernel
theorem dX3_init_38 : decode cX3_init 38 = .ok (.aload_n 0, 1) := by decide +kernel
theorem dX3_init_39 : decode cX3_init 39 = .ok (.bipush 10, 2) := by decide +kernel
theorem dX3_init_41 : decode cX3_init 41 = .ok (.newarray .int, 2) := by decide +kernel
theorem dX3_init_43 : decode cX3_init 43 = .ok (.putfield 28, 3) := by decide +kernel
theorem dX3_init_46 : decode cX3_init 46 = .ok (.aload_n 0, 1) := by decide +kernel
theorem dX3_init_47 : decode cX3_init 47 = .ok (.bipush 10, 2) := by decide +kernel
theorem dX3_init_49 : decode cX3_init 49 = .ok (.newarray .int, 2) := by decide +kernel
theorem dX3_init_51 : decode cX3_init 51 = .ok (.putfield 31, 3) := by decide +kernel
theorem dX3_init_54 : decode cX3_init 54 = .ok (.aload_n 0, 1) := by decide +kernel
theorem dX3_init_55 : decode cX3_init 55 = .ok (.iconst 0, 1) := by decide +kernel
theorem dX3_init_56 : decode cX3_init 56 = .ok (.putfield 34, 3) := by decide +kernel
theorem dX3_init_59 : decode cX3_init 59 = .ok (.aload_n 0, 1) := by decide +kernel
theorem dX3_init_60 : decode cX3_init 60 = .ok (.iconst 5, 1) := by decide +kernel
theorem dX3_init_61 : decode cX3_init 61 = .ok (.newarray .int, 2) := by decide +kernel
theorem dX3_init_63 : decode cX3_init 63 = .ok (.putfield 37, 3) := by decide +kernel
theorem dX3_init_66 : decode cX3_init 66 = .ok (.aload_n 0, 1) := by decide +kernel
theorem dX3_init_67 : decode cX3_init 67 = .ok (.iconst 5, 1) := by decide +kernel
theorem dX3_init_68 : decode cX3_init 68 = .ok (.newarray .int, 2) := by decide +kernel
theorem dX3_init_70 : decode cX3_init 70 = .ok (.putfield 40, 3) := by decide +kernel
theorem dX3_init_73 : decode cX3_init 73 = .ok (.aload_n 0, 1) := by decide +kernel
theorem dX3_init_74 : decode cX3_init 74 = .ok (.iconst 3, 1) := by decide +kernel
theorem dX3_init_75 : decode cX3_init 75 = .ok (.newarray .int, 2) := by decide +kernel
theorem dX3_init_77 : decode cX3_init 77 = .ok (.dup, 1) := by decide +kernel
theorem dX3_init_78 : decode cX3_init 78 = .ok (.iconst 0, 1) := by decide +kernel
theorem dX3_init_79 : decode cX3_init 79 = .ok (.sipush 999, 3) := by decide +kernel
theorem dX3_init_82 : decode cX3_init 82 = .ok (.iastore, 1) := by decide +kernel
theorem dX3_init_83 : decode cX3_init 83 = .ok (.dup, 1) := by decide +kernel
theorem dX3_init_84 : decode cX3_init 84 = .ok (.iconst 1, 1) := by decide +kernel
theorem dX3_init_85 : decode cX3_init 85 = .ok (.sipush 999, 3) := by decide +kernel
theorem dX3_init_88 : decode cX3_init 88 = .ok (.iastore, 1) := by decide +kernel
theorem dX3_init_89 : decode cX3_init 89 = .ok (.dup, 1) := by decide +kernel
theorem dX3_init_90 : decode cX3_init 90 = .ok (.iconst 2, 1) := by decide +kernel
theorem dX3_init_91 : decode cX3_init 91 = .ok (.sipush 999, 3) := by decide +kernel
theorem dX3_init_94 : decode cX3_init 94 = .ok (.iastore, 1) := by decide +kernel
theorem dX3_init_95 : decode cX3_init 95 = .ok (.putfield 43, 3) := by decide +kernel
theorem dX3_init_98 : decode cX3_init 98 = .ok (.aload_n 0, 1) := by decide +kernel
theorem dX3_init_99 : decode cX3_init 99 = .ok (.iconst 3, 1) := by decide +kernel
theorem dX3_init_100 : decode cX3_init 100 = .ok (.newarray .int, 2) := by decide +kernel
theorem dX3_init_102 : decode cX3_init 102 = .ok (.putfield 46, 3) := by decide +kernel
theorem dX3_init_105 : decode cX3_init 105 = .ok (.aload_n 0, 1) := by decide +kernel
theorem dX3_init_106 : decode cX3_init 106 = .ok (.iconst 2, 1) := by decide +kernel
theorem dX3_init_107 : decode cX3_init 107 = .ok (.newarray .int, 2) := by decide +kernel
theorem dX3_init_109 : decode cX3_init 109 = .ok (.dup, 1) := by decide +kernel
theorem dX3_init_110 : decode cX3_init 110 = .ok (.iconst 0, 1) := by decide +kernel
theorem dX3_init_111 : decode cX3_init 111 = .ok (.iconst 2, 1) := by decide +kernel
theorem dX3_init_112 : decode cX3_init 112 = .ok (.iastore, 1) := by decide +kernel
theorem dX3_init_113 : decode cX3_init 113 = .ok (.dup, 1) := by decide +kernel
theorem dX3_init_114 : decode cX3_init 114 = .ok (.iconst 1, 1) := by decide +kernel
theorem dX3_init_115 : decode cX3_init 115 = .ok (.iconst 3, 1) := by decide +kernel
theorem dX3_init_116 : decode cX3_init 116 = .ok (.iastore, 1) := by decide +kernel
theorem dX3_init_117 : decode cX3_init 117 = .ok (.putfield 49, 3) := by decide +kernel
theorem dX3_init_120 : decode cX3_init 120 = .ok (.aload_n 0, 1) := by decide +kernel
theorem dX3_init_121 : decode cX3_init 121 = .ok (.iconst 0, 1) := by decide +kernel
theorem dX3_init_122 : decode cX3_init 122 = .ok (.putfield 52, 3) := by decide +kernel
theorem dX3_init_125 : decode cX3_init 125 = .ok (.aload_n 0, 1) := by decide +kernel
theorem dX3_init_126 : decode cX3_init 126 = .ok (.bipush 8, 2) := by decide +kernel
theorem dX3_init_128 : decode cX3_init 128 = .ok (.newarray .int, 2) := by decide +kernel
theorem dX3_init_130 : decode cX3_init 130 = .ok (.putfield 55, 3) := by decide +kernel
theorem dX3_init_133 : decode cX3_init 133 = .ok (.aload_n 0, 1) := by decide +kernel
theorem dX3_init_134 : decode cX3_init 134 = .ok (.bipush 8, 2) := by decide +kernel
theorem dX3_init_136 : decode cX3_init 136 = .ok (.newarray .int, 2) := by decide +kernel
theorem dX3_init_138 : decode cX3_init 138 = .ok (.putfield 58, 3) := by decide +kernel
theorem dX3_init_141 : decode cX3_init 141 = .ok (.aload_n 0, 1) := by decide +kernel
theorem dX3_init_142 : decode cX3_init 142 = .ok (.bipush 8, 2) := by decide +kernel
theorem dX3_init_144 : decode cX3_init 144 = .ok (.newarray .int, 2) := by decide +kernel
theorem dX3_init_146 : decode cX3_init 146 = .ok (.putfield 61, 3) := by decide +kernel
theorem dX3_init_149 : decode cX3_init 149 = .ok (.aload_n 0, 1) := by decide +kernel
theorem dX3_init_150 : decode cX3_init 150 = .ok (.iconst 0, 1) := by decide +kernel
theorem dX3_init_151 : decode cX3_init 151 = .ok (.putfield 64, 3) := by decide +kernel
theorem dX3_init_154 : decode cX3_init 154 = .ok (.aload_n 0, 1) := by decide +kernel
theorem dX3_init_155 : decode cX3_init 155 = .ok (.bipush 6, 2) := by decide +kernel
theorem dX3_init_157 : decode cX3_init 157 = .ok (.newarray .int, 2) := by decide +kernel
theorem dX3_init_159 : decode cX3_init 159 = .ok (.putfield 67, 3) := by decide +kernel
theorem dX3_init_162 : decode cX3_init 162 = .ok (.aload_n 0, 1) := by decide +kernel
theorem dX3_init_163 : decode cX3_init 163 = .ok (.bipush 6, 2) := by decide +kernel
theorem dX3_init_165 : decode cX3_init 165 = .ok (.newarray .int, 2) := by decide +kernel
theorem dX3_init_167 : decode cX3_init 167 = .ok (.putfield 70, 3) := by decide +kernel
theorem dX3_init_170 : decode cX3_init 170 = .ok (.return_, 1) := by decide +kernel
theorem dX3_addThing_0 : decode cX3_addThing 0 = .ok (.aload_n 0, 1) := by decide +kernel
theorem dX3_addThing_1 : decode cX3_addThing 1 = .ok (.dup, 1) := by decide +kernel
theorem dX3_addThing_2 : decode cX3_addThing 2 = .ok (.getfield 9, 3) := by decide +kernel
theorem dX3_addThing_5 : decode cX3_addThing 5 = .ok (.iconst 1, 1) := by decide +kernel
theorem dX3_addThing_6 : decode cX3_addThing 6 = .ok (.iadd, 1) := by decide +kernel
theorem dX3_addThing_7 : decode cX3_addThing 7 = .ok (.putfield 9, 3) := by decide +kernel
theorem dX3_addThing_10 : decode cX3_addThing 10 = .ok (.aload_n 0, 1) := by decide +kernel
theorem dX3_addThing_11 : decode cX3_addThing 11 = .ok (.getfield 18, 3) := by decide +kernel
theorem dX3_addThing_14 : decode cX3_addThing 14 = .ok (.aload_n 0, 1) := by decide +kernel
theorem dX3_addThing_15 : decode cX3_addThing 15 = .ok (.getfield 15, 3) := by decide +kernel
theorem dX3_addThing_18 : decode cX3_addThing 18 = .ok (.iload_n 1, 1) := by decide +kernel
theorem dX3_addThing_19 : decode cX3_addThing 19 = .ok (.iastore, 1) := by decide +kernel
theorem dX3_addThing_20 : decode cX3_addThing 20 = .ok (.aload_n 0, 1) := by decide +kernel
theorem dX3_addThing_21 : decode cX3_addThing 21 = .ok (.getfield 22, 3) := by decide +kernel
theorem dX3_addThing_24 : decode cX3_addThing 24 = .ok (.aload_n 0, 1) := by decide +kernel
theorem dX3_addThing_25 : decode cX3_addThing 25 = .ok (.getfield 15, 3) := by decide +kernel
theorem dX3_addThing_28 : decode cX3_addThing 28 = .ok (.iload_n 2, 1) := by decide +kernel
theorem dX3_addThing_29 : decode cX3_addThing 29 = .ok (.iastore, 1) := by decide +kernel
theorem dX3_addThing_30 : decode cX3_addThing 30 = .ok (.aload_n 0, 1) := by decide +kernel
theorem dX3_addThing_31 : decode cX3_addThing 31 = .ok (.getfield 25, 3) := by decide +kernel
theorem dX3_addThing_34 : decode cX3_addThing 34 = .ok (.aload_n 0, 1) := by decide +kernel
theorem dX3_addThing_35 : decode cX3_addThing 35 = .ok (.getfield 15, 3) := by decide +kernel
theorem dX3_addThing_38 : decode cX3_addThing 38 = .ok (.iload_n 3, 1) := by decide +kernel
theorem dX3_addThing_39 : decode cX3_addThing 39 = .ok (.iastore, 1) := by decide +kernel
theorem dX3_addThing_40 : decode cX3_addThing 40 = .ok (.aload_n 0, 1) := by decide +kernel
theorem dX3_addThing_41 : decode cX3_addThing 41 = .ok (.getfield 28, 3) := by decide +kernel
theorem dX3_addThing_44 : decode cX3_addThing 44 = .ok (.aload_n 0, 1) := by decide +kernel
theorem dX3_addThing_45 : decode cX3_addThing 45 = .ok (.getfield 15, 3) := by decide +kernel
theorem dX3_addThing_48 : decode cX3_addThing 48 = .ok (.iconst 0, 1) := by decide +kernel
theorem dX3_addThing_49 : decode cX3_addThing 49 = .ok (.iastore, 1) := by decide +kernel
theorem dX3_addThing_50 : decode cX3_addThing 50 = .ok (.aload_n 0, 1) := by decide +kernel
theorem dX3_addThing_51 : decode cX3_addThing 51 = .ok (.getfield 31, 3) := by decide +kernel
theorem dX3_addThing_54 : decode cX3_addThing 54 = .ok (.aload_n 0, 1) := by decide +kernel
theorem dX3_addThing_55 : decode cX3_addThing 55 = .ok (.getfield 15, 3) := by decide +kernel
theorem dX3_addThing_58 : decode cX3_addThing 58 = .ok (.iconst 0, 1) := by decide +kernel
theorem dX3_addThing_59 : decode cX3_addThing 59 = .ok (.iastore, 1) := by decide +kernel
theorem dX3_addThing_60 : decode cX3_addThing 60 = .ok (.aload_n 0, 1) := by decide +kernel
theorem dX3_addThing_61 : decode cX3_addThing 61 = .ok (.dup, 1) := by decide +kernel
theorem dX3_addThing_62 : decode cX3_addThing 62 = .ok (.getfield 15, 3) := by decide +kernel
theorem dX3_addThing_65 : decode cX3_addThing 65 = .ok (.dup_x1, 1) := by decide +kernel
theorem dX3_addThing_66 : decode cX3_addThing 66 = .ok (.iconst 1, 1) := by decide +kernel
theorem dX3_addThing_67 : decode cX3_addThing 67 = .ok (.iadd, 1) := by decide +kernel
theorem dX3_addThing_68 : decode cX3_addThing 68 = .ok (.putfield 15, 3) := by decide +kernel
theorem dX3_addThing_71 : decode cX3_addThing 71 = .ok (.ireturn, 1) := by decide +kernel
theorem dX3_addStretch_0 : decode cX3_addStretch 0 = .ok (.aload_n 0, 1) := by decide +kernel
theorem dX3_addStretch_1 : decode cX3_addStretch 1 = .ok (.dup, 1) := by decide +kernel
theorem dX3_addStretch_2 : decode cX3_addStretch 2 = .ok (.getfield 9, 3) := by decide +kernel
theorem dX3_addStretch_5 : decode cX3_addStretch 5 = .ok (.iconst 1, 1) := by decide +kernel
theorem dX3_addStretch_6 : decode cX3_addStretch 6 = .ok (.iadd, 1) := by decide +kernel
theorem dX3_addStretch_7 : decode cX3_addStretch 7 = .ok (.putfield 9, 3) := by decide +kernel
theorem dX3_addStretch_10 : decode cX3_addStretch 10 = .ok (.aload_n 0, 1) := by decide +kernel
theorem dX3_addStretch_11 : decode cX3_addStretch 11 = .ok (.getfield 37, 3) := by decide +kernel
theorem dX3_addStretch_14 : decode cX3_addStretch 14 = .ok (.aload_n 0, 1) := by decide +kernel
theorem dX3_addStretch_15 : decode cX3_addStretch 15 = .ok (.getfield 34, 3) := by decide +kernel
theorem dX3_addStretch_18 : decode cX3_addStretch 18 = .ok (.iload_n 1, 1) := by decide +kernel
theorem dX3_addStretch_19 : decode cX3_addStretch 19 = .ok (.iastore, 1) := by decide +kernel
theorem dX3_addStretch_20 : decode cX3_addStretch 20 = .ok (.aload_n 0, 1) := by decide +kernel
theorem dX3_addStretch_21 : decode cX3_addStretch 21 = .ok (.getfield 40, 3) := by decide +kernel
theorem dX3_addStretch_24 : decode cX3_addStretch 24 = .ok (.aload_n 0, 1) := by decide +kernel
theorem dX3_addStretch_25 : decode cX3_addStretch 25 = .ok (.getfield 34, 3) := by decide +kernel
theorem dX3_addStretch_28 : decode cX3_addStretch 28 = .ok (.iload_n 2, 1) := by decide +kernel
theorem dX3_addStretch_29 : decode cX3_addStretch 29 = .ok (.iastore, 1) := by decide +kernel
theorem dX3_addStretch_30 : decode cX3_addStretch 30 = .ok (.aload_n 0, 1) := by decide +kernel
theorem dX3_addStretch_31 : decode cX3_addStretch 31 = .ok (.dup, 1) := by decide +kernel
theorem dX3_addStretch_32 : decode cX3_addStretch 32 = .ok (.getfield 34, 3) := by decide +kernel
theorem dX3_addStretch_35 : decode cX3_addStretch 35 = .ok (.dup_x1, 1) := by decide +kernel
theorem dX3_addStretch_36 : decode cX3_addStretch 36 = .ok (.iconst 1, 1) := by decide +kernel
theorem dX3_addStretch_37 : decode cX3_addStretch 37 = .ok (.iadd, 1) := by decide +kernel
theorem dX3_addStretch_38 : decode cX3_addStretch 38 = .ok (.putfield 34, 3) := by decide +kernel
theorem dX3_addStretch_41 : decode cX3_addStretch 41 = .ok (.ireturn, 1) := by decide +kernel
theorem dX3_addLaw_0 : decode cX3_addLaw 0 = .ok (.aload_n 0, 1) := by decide +kernel
theorem dX3_addLaw_1 : decode cX3_addLaw 1 = .ok (.dup, 1) := by decide +kernel
theorem dX3_addLaw_2 : decode cX3_addLaw 2 = .ok (.getfield 9, 3) := by decide +kernel
theorem dX3_addLaw_5 : decode cX3_addLaw 5 = .ok (.iconst 1, 1) := by decide +kernel
theorem dX3_addLaw_6 : decode cX3_addLaw 6 = .ok (.iadd, 1) := by decide +kernel
theorem dX3_addLaw_7 : decode cX3_addLaw 7 = .ok (.putfield 9, 3) := by decide +kernel
theorem dX3_addLaw_10 : decode cX3_addLaw 10 = .ok (.aload_n 0, 1) := by decide +kernel
theorem dX3_addLaw_11 : decode cX3_addLaw 11 = .ok (.getfield 55, 3) := by decide +kernel
theorem dX3_addLaw_14 : decode cX3_addLaw 14 = .ok (.aload_n 0, 1) := by decide +kernel
theorem dX3_addLaw_15 : decode cX3_addLaw 15 = .ok (.getfield 52, 3) := by decide +kernel
theorem dX3_addLaw_18 : decode cX3_addLaw 18 = .ok (.iload_n 1, 1) := by decide +kernel
theorem dX3_addLaw_19 : decode cX3_addLaw 19 = .ok (.iastore, 1) := by decide +kernel
theorem dX3_addLaw_20 : decode cX3_addLaw 20 = .ok (.aload_n 0, 1) := by decide +kernel
theorem dX3_addLaw_21 : decode cX3_addLaw 21 = .ok (.getfield 58, 3) := by decide +kernel
theorem dX3_addLaw_24 : decode cX3_addLaw 24 = .ok (.aload_n 0, 1) := by decide +kernel
theorem dX3_addLaw_25 : decode cX3_addLaw 25 = .ok (.getfield 52, 3) := by decide +kernel
theorem dX3_addLaw_28 : decode cX3_addLaw 28 = .ok (.iload_n 2, 1) := by decide +kernel
theorem dX3_addLaw_29 : decode cX3_addLaw 29 = .ok (.iastore, 1) := by decide +kernel
theorem dX3_addLaw_30 : decode cX3_addLaw 30 = .ok (.aload_n 0, 1) := by decide +kernel
theorem dX3_addLaw_31 : decode cX3_addLaw 31 = .ok (.getfield 61, 3) := by decide +kernel
theorem dX3_addLaw_34 : decode cX3_addLaw 34 = .ok (.aload_n 0, 1) := by decide +kernel
theorem dX3_addLaw_35 : decode cX3_addLaw 35 = .ok (.getfield 52, 3) := by decide +kernel
theorem dX3_addLaw_38 : decode cX3_addLaw 38 = .ok (.iload_n 3, 1) := by decide +kernel
theorem dX3_addLaw_39 : decode cX3_addLaw 39 = .ok (.iastore, 1) := by decide +kernel
theorem dX3_addLaw_40 : decode cX3_addLaw 40 = .ok (.aload_n 0, 1) := by decide +kernel
theorem dX3_addLaw_41 : decode cX3_addLaw 41 = .ok (.dup, 1) := by decide +kernel
theorem dX3_addLaw_42 : decode cX3_addLaw 42 = .ok (.getfield 52, 3) := by decide +kernel
theorem dX3_addLaw_45 : decode cX3_addLaw 45 = .ok (.dup_x1, 1) := by decide +kernel
theorem dX3_addLaw_46 : decode cX3_addLaw 46 = .ok (.iconst 1, 1) := by decide +kernel
theorem dX3_addLaw_47 : decode cX3_addLaw 47 = .ok (.iadd, 1) := by decide +kernel
theorem dX3_addLaw_48 : decode cX3_addLaw 48 = .ok (.putfield 52, 3) := by decide +kernel
theorem dX3_addLaw_51 : decode cX3_addLaw 51 = .ok (.ireturn, 1) := by decide +kernel
theorem dX3_dropLaw_0 : decode cX3_dropLaw 0 = .ok (.aload_n 0, 1) := by decide +kernel
theorem dX3_dropLaw_1 : decode cX3_dropLaw 1 = .ok (.dup, 1) := by decide +kernel
theorem dX3_dropLaw_2 : decode cX3_dropLaw 2 = .ok (.getfield 9, 3) := by decide +kernel
theorem dX3_dropLaw_5 : decode cX3_dropLaw 5 = .ok (.iconst 1, 1) := by decide +kernel
theorem dX3_dropLaw_6 : decode cX3_dropLaw 6 = .ok (.iadd, 1) := by decide +kernel
theorem dX3_dropLaw_7 : decode cX3_dropLaw 7 = .ok (.putfield 9, 3) := by decide +kernel
theorem dX3_dropLaw_10 : decode cX3_dropLaw 10 = .ok (.aload_n 0, 1) := by decide +kernel
theorem dX3_dropLaw_11 : decode cX3_dropLaw 11 = .ok (.dup, 1) := by decide +kernel
theorem dX3_dropLaw_12 : decode cX3_dropLaw 12 = .ok (.getfield 52, 3) := by decide +kernel
theorem dX3_dropLaw_15 : decode cX3_dropLaw 15 = .ok (.iconst 1, 1) := by decide +kernel
theorem dX3_dropLaw_16 : decode cX3_dropLaw 16 = .ok (.isub, 1) := by decide +kernel
theorem dX3_dropLaw_17 : decode cX3_dropLaw 17 = .ok (.putfield 52, 3) := by decide +kernel
theorem dX3_dropLaw_20 : decode cX3_dropLaw 20 = .ok (.aload_n 0, 1) := by decide +kernel
theorem dX3_dropLaw_21 : decode cX3_dropLaw 21 = .ok (.getfield 52, 3) := by decide +kernel
theorem dX3_dropLaw_24 : decode cX3_dropLaw 24 = .ok (.ireturn, 1) := by decide +kernel
theorem dX3_addBar_0 : decode cX3_addBar 0 = .ok (.aload_n 0, 1) := by decide +kernel
theorem dX3_addBar_1 : decode cX3_addBar 1 = .ok (.dup, 1) := by decide +kernel
theorem dX3_addBar_2 : decode cX3_addBar 2 = .ok (.getfield 9, 3) := by decide +kernel
theorem dX3_addBar_5 : decode cX3_addBar 5 = .ok (.iconst 1, 1) := by decide +kernel
theorem dX3_addBar_6 : decode cX3_addBar 6 = .ok (.iadd, 1) := by decide +kernel
theorem dX3_addBar_7 : decode cX3_addBar 7 = .ok (.putfield 9, 3) := by decide +kernel
theorem dX3_addBar_10 : decode cX3_addBar 10 = .ok (.aload_n 0, 1) := by decide +kernel
theorem dX3_addBar_11 : decode cX3_addBar 11 = .ok (.getfield 67, 3) := by decide +kernel
theorem dX3_addBar_14 : decode cX3_addBar 14 = .ok (.aload_n 0, 1) := by decide +kernel
theorem dX3_addBar_15 : decode cX3_addBar 15 = .ok (.getfield 64, 3) := by decide +kernel
theorem dX3_addBar_18 : decode cX3_addBar 18 = .ok (.iload_n 1, 1) := by decide +kernel
theorem dX3_addBar_19 : decode cX3_addBar 19 = .ok (.iastore, 1) := by decide +kernel
theorem dX3_addBar_20 : decode cX3_addBar 20 = .ok (.aload_n 0, 1) := by decide +kernel
theorem dX3_addBar_21 : decode cX3_addBar 21 = .ok (.getfield 70, 3) := by decide +kernel
theorem dX3_addBar_24 : decode cX3_addBar 24 = .ok (.aload_n 0, 1) := by decide +kernel
theorem dX3_addBar_25 : decode cX3_addBar 25 = .ok (.getfield 64, 3) := by decide +kernel
theorem dX3_addBar_28 : decode cX3_addBar 28 = .ok (.iload_n 2, 1) := by decide +kernel
theorem dX3_addBar_29 : decode cX3_addBar 29 = .ok (.iastore, 1) := by decide +kernel
theorem dX3_addBar_30 : decode cX3_addBar 30 = .ok (.aload_n 0, 1) := by decide +kernel
theorem dX3_addBar_31 : decode cX3_addBar 31 = .ok (.dup, 1) := by decide +kernel
theorem dX3_addBar_32 : decode cX3_addBar 32 = .ok (.getfield 64, 3) := by decide +kernel
theorem dX3_addBar_35 : decode cX3_addBar 35 = .ok (.dup_x1, 1) := by decide +kernel
theorem dX3_addBar_36 : decode cX3_addBar 36 = .ok (.iconst 1, 1) := by decide +kernel
theorem dX3_addBar_37 : decode cX3_addBar 37 = .ok (.iadd, 1) := by decide +kernel
theorem dX3_addBar_38 : decode cX3_addBar 38 = .ok (.putfield 64, 3) := by decide +kernel
theorem dX3_addBar_41 : decode cX3_addBar 41 = .ok (.ireturn, 1) := by decide +kernel
theorem dX3_put_0 : decode cX3_put 0 = .ok (.aload_n 0, 1) := by decide +kernel
theorem dX3_put_1 : decode cX3_put 1 = .ok (.dup, 1) := by decide +kernel
theorem dX3_put_2 : decode cX3_put 2 = .ok (.getfield 9, 3) := by decide +kernel
theorem dX3_put_5 : decode cX3_put 5 = .ok (.iconst 1, 1) := by decide +kernel
theorem dX3_put_6 : decode cX3_put 6 = .ok (.iadd, 1) := by decide +kernel
theorem dX3_put_7 : decode cX3_put 7 = .ok (.putfield 9, 3) := by decide +kernel
theorem dX3_put_10 : decode cX3_put 10 = .ok (.aload_n 1, 1) := by decide +kernel
theorem dX3_put_11 : decode cX3_put 11 = .ok (.iload_n 2, 1) := by decide +kernel
theorem dX3_put_12 : decode cX3_put 12 = .ok (.iaload, 1) := by decide +kernel
theorem dX3_put_13 : decode cX3_put 13 = .ok (.istore 4, 2) := by decide +kernel
theorem dX3_put_15 : decode cX3_put 15 = .ok (.aload_n 1, 1) := by decide +kernel
theorem dX3_put_16 : decode cX3_put 16 = .ok (.iload_n 2, 1) := by decide +kernel
theorem dX3_put_17 : decode cX3_put 17 = .ok (.iload_n 3, 1) := by decide +kernel
theorem dX3_put_18 : decode cX3_put 18 = .ok (.iastore, 1) := by decide +kernel
theorem dX3_put_19 : decode cX3_put 19 = .ok (.iload 4, 2) := by decide +kernel
theorem dX3_put_21 : decode cX3_put 21 = .ok (.ireturn, 1) := by decide +kernel
theorem dX3_packAs_0 : decode cX3_packAs 0 = .ok (.aload_n 0, 1) := by decide +kernel
theorem dX3_packAs_1 : decode cX3_packAs 1 = .ok (.dup, 1) := by decide +kernel
theorem dX3_packAs_2 : decode cX3_packAs 2 = .ok (.getfield 9, 3) := by decide +kernel
theorem dX3_packAs_5 : decode cX3_packAs 5 = .ok (.iconst 1, 1) := by decide +kernel
theorem dX3_packAs_6 : decode cX3_packAs 6 = .ok (.iadd, 1) := by decide +kernel
theorem dX3_packAs_7 : decode cX3_packAs 7 = .ok (.putfield 9, 3) := by decide +kernel
theorem dX3_packAs_10 : decode cX3_packAs 10 = .ok (.aload_n 1, 1) := by decide +kernel
theorem dX3_packAs_11 : decode cX3_packAs 11 = .ok (.iconst 0, 1) := by decide +kernel
theorem dX3_packAs_12 : decode cX3_packAs 12 = .ok (.aload_n 0, 1) := by decide +kernel
theorem dX3_packAs_13 : decode cX3_packAs 13 = .ok (.getfield 31, 3) := by decide +kernel
theorem dX3_packAs_16 : decode cX3_packAs 16 = .ok (.iconst 0, 1) := by decide +kernel
theorem dX3_packAs_17 : decode cX3_packAs 17 = .ok (.aload_n 0, 1) := by decide +kernel
theorem dX3_packAs_18 : decode cX3_packAs 18 = .ok (.getfield 15, 3) := by decide +kernel
theorem dX3_packAs_21 : decode cX3_packAs 21 = .ok (.invokestatic 73, 3) := by decide +kernel
theorem dX3_packAs_24 : decode cX3_packAs 24 = .ok (.return_, 1) := by decide +kernel
theorem dX3_clearGoods_0 : decode cX3_clearGoods 0 = .ok (.aload_n 0, 1) := by decide +kernel
theorem dX3_clearGoods_1 : decode cX3_clearGoods 1 = .ok (.dup, 1) := by decide +kernel
theorem dX3_clearGoods_2 : decode cX3_clearGoods 2 = .ok (.getfield 9, 3) := by decide +kernel
theorem dX3_clearGoods_5 : decode cX3_clearGoods 5 = .ok (.iconst 1, 1) := by decide +kernel
theorem dX3_clearGoods_6 : decode cX3_clearGoods 6 = .ok (.iadd, 1) := by decide +kernel
theorem dX3_clearGoods_7 : decode cX3_clearGoods 7 = .ok (.putfield 9, 3) := by decide +kernel
theorem dX3_clearGoods_10 : decode cX3_clearGoods 10 = .ok (.aload_n 0, 1) := by decide +kernel
theorem dX3_clearGoods_11 : decode cX3_clearGoods 11 = .ok (.iconst 0, 1) := by decide +kernel
theorem dX3_clearGoods_12 : decode cX3_clearGoods 12 = .ok (.putfield 15, 3) := by decide +kernel
theorem dX3_clearGoods_15 : decode cX3_clearGoods 15 = .ok (.aload_n 0, 1) := by decide +kernel
theorem dX3_clearGoods_16 : decode cX3_clearGoods 16 = .ok (.iconst 0, 1) := by decide +kernel
theorem dX3_clearGoods_17 : decode cX3_clearGoods 17 = .ok (.putfield 34, 3) := by decide +kernel
theorem dX3_clearGoods_20 : decode cX3_clearGoods 20 = .ok (.return_, 1) := by decide +kernel
theorem dX3_clearLawsAndBars_0 : decode cX3_clearLawsAndBars 0 = .ok (.aload_n 0, 1) := by decide +kernel
theorem dX3_clearLawsAndBars_1 : decode cX3_clearLawsAndBars 1 = .ok (.dup, 1) := by decide +kernel
theorem dX3_clearLawsAndBars_2 : decode cX3_clearLawsAndBars 2 = .ok (.getfield 9, 3) := by decide +kernel
theorem dX3_clearLawsAndBars_5 : decode cX3_clearLawsAndBars 5 = .ok (.iconst 1, 1) := by decide +kernel
theorem dX3_clearLawsAndBars_6 : decode cX3_clearLawsAndBars 6 = .ok (.iadd, 1) := by decide +kernel
theorem dX3_clearLawsAndBars_7 : decode cX3_clearLawsAndBars 7 = .ok (.putfield 9, 3) := by decide +kernel
theorem dX3_clearLawsAndBars_10 : decode cX3_clearLawsAndBars 10 = .ok (.aload_n 0, 1) := by decide +kernel
theorem dX3_clearLawsAndBars_11 : decode cX3_clearLawsAndBars 11 = .ok (.iconst 0, 1) := by decide +kernel
theorem dX3_clearLawsAndBars_12 : decode cX3_clearLawsAndBars 12 = .ok (.putfield 52, 3) := by decide +kernel
theorem dX3_clearLawsAndBars_15 : decode cX3_clearLawsAndBars 15 = .ok (.aload_n 0, 1) := by decide +kernel
theorem dX3_clearLawsAndBars_16 : decode cX3_clearLawsAndBars 16 = .ok (.iconst 0, 1) := by decide +kernel
theorem dX3_clearLawsAndBars_17 : decode cX3_clearLawsAndBars 17 = .ok (.putfield 64, 3) := by decide +kernel
theorem dX3_clearLawsAndBars_20 : decode cX3_clearLawsAndBars 20 = .ok (.return_, 1) := by decide +kernel
theorem dX3_takeGoods_0 : decode cX3_takeGoods 0 = .ok (.aload_n 0, 1) := by decide +kernel
theorem dX3_takeGoods_1 : decode cX3_takeGoods 1 = .ok (.dup, 1) := by decide +kernel
theorem dX3_takeGoods_2 : decode cX3_takeGoods 2 = .ok (.getfield 9, 3) := by decide +kernel
theorem dX3_takeGoods_5 : decode cX3_takeGoods 5 = .ok (.iconst 1, 1) := by decide +kernel
theorem dX3_takeGoods_6 : decode cX3_takeGoods 6 = .ok (.iadd, 1) := by decide +kernel
theorem dX3_takeGoods_7 : decode cX3_takeGoods 7 = .ok (.putfield 9, 3) := by decide +kernel
theorem dX3_takeGoods_10 : decode cX3_takeGoods 10 = .ok (.aload_n 0, 1) := by decide +kernel
theorem dX3_takeGoods_11 : decode cX3_takeGoods 11 = .ok (.aload_n 1, 1) := by decide +kernel
theorem dX3_takeGoods_12 : decode cX3_takeGoods 12 = .ok (.getfield 15, 3) := by decide +kernel
theorem dX3_takeGoods_15 : decode cX3_takeGoods 15 = .ok (.putfield 15, 3) := by decide +kernel
theorem dX3_takeGoods_18 : decode cX3_takeGoods 18 = .ok (.aload_n 1, 1) := by decide +kernel
theorem dX3_takeGoods_19 : decode cX3_takeGoods 19 = .ok (.getfield 18, 3) := by decide +kernel
theorem dX3_takeGoods_22 : decode cX3_takeGoods 22 = .ok (.iconst 0, 1) := by decide +kernel
theorem dX3_takeGoods_23 : decode cX3_takeGoods 23 = .ok (.aload_n 0, 1) := by decide +kernel
theorem dX3_takeGoods_24 : decode cX3_takeGoods 24 = .ok (.getfield 18, 3) := by decide +kernel
theorem dX3_takeGoods_27 : decode cX3_takeGoods 27 = .ok (.iconst 0, 1) := by decide +kernel
theorem dX3_takeGoods_28 : decode cX3_takeGoods 28 = .ok (.bipush 10, 2) := by decide +kernel
theorem dX3_takeGoods_30 : decode cX3_takeGoods 30 = .ok (.invokestatic 73, 3) := by decide +kernel
theorem dX3_takeGoods_33 : decode cX3_takeGoods 33 = .ok (.aload_n 1, 1) := by decide +kernel
theorem dX3_takeGoods_34 : decode cX3_takeGoods 34 = .ok (.getfield 22, 3) := by decide +kernel
theorem dX3_takeGoods_37 : decode cX3_takeGoods 37 = .ok (.iconst 0, 1) := by decide +kernel
theorem dX3_takeGoods_38 : decode cX3_takeGoods 38 = .ok (.aload_n 0, 1) := by decide +kernel
theorem dX3_takeGoods_39 : decode cX3_takeGoods 39 = .ok (.getfield 22, 3) := by decide +kernel
theorem dX3_takeGoods_42 : decode cX3_takeGoods 42 = .ok (.iconst 0, 1) := by decide +kernel
theorem dX3_takeGoods_43 : decode cX3_takeGoods 43 = .ok (.bipush 10, 2) := by decide +kernel
theorem dX3_takeGoods_45 : decode cX3_takeGoods 45 = .ok (.invokestatic 73, 3) := by decide +kernel
theorem dX3_takeGoods_48 : decode cX3_takeGoods 48 = .ok (.aload_n 1, 1) := by decide +kernel
theorem dX3_takeGoods_49 : decode cX3_takeGoods 49 = .ok (.getfield 25, 3) := by decide +kernel
theorem dX3_takeGoods_52 : decode cX3_takeGoods 52 = .ok (.iconst 0, 1) := by decide +kernel
theorem dX3_takeGoods_53 : decode cX3_takeGoods 53 = .ok (.aload_n 0, 1) := by decide +kernel
theorem dX3_takeGoods_54 : decode cX3_takeGoods 54 = .ok (.getfield 25, 3) := by decide +kernel
theorem dX3_takeGoods_57 : decode cX3_takeGoods 57 = .ok (.iconst 0, 1) := by decide +kernel
theorem dX3_takeGoods_58 : decode cX3_takeGoods 58 = .ok (.bipush 10, 2) := by decide +kernel
theorem dX3_takeGoods_60 : decode cX3_takeGoods 60 = .ok (.invokestatic 73, 3) := by decide +kernel
theorem dX3_takeGoods_63 : decode cX3_takeGoods 63 = .ok (.aload_n 1, 1) := by decide +kernel
theorem dX3_takeGoods_64 : decode cX3_takeGoods 64 = .ok (.getfield 28, 3) := by decide +kernel
theorem dX3_takeGoods_67 : decode cX3_takeGoods 67 = .ok (.iconst 0, 1) := by decide +kernel
theorem dX3_takeGoods_68 : decode cX3_takeGoods 68 = .ok (.aload_n 0, 1) := by decide +kernel
theorem dX3_takeGoods_69 : decode cX3_takeGoods 69 = .ok (.getfield 28, 3) := by decide +kernel
theorem dX3_takeGoods_72 : decode cX3_takeGoods 72 = .ok (.iconst 0, 1) := by decide +kernel
theorem dX3_takeGoods_73 : decode cX3_takeGoods 73 = .ok (.bipush 10, 2) := by decide +kernel
theorem dX3_takeGoods_75 : decode cX3_takeGoods 75 = .ok (.invokestatic 73, 3) := by decide +kernel
theorem dX3_takeGoods_78 : decode cX3_takeGoods 78 = .ok (.aload_n 1, 1) := by decide +kernel
theorem dX3_takeGoods_79 : decode cX3_takeGoods 79 = .ok (.getfield 31, 3) := by decide +kernel
theorem dX3_takeGoods_82 : decode cX3_takeGoods 82 = .ok (.iconst 0, 1) := by decide +kernel
theorem dX3_takeGoods_83 : decode cX3_takeGoods 83 = .ok (.aload_n 0, 1) := by decide +kernel
theorem dX3_takeGoods_84 : decode cX3_takeGoods 84 = .ok (.getfield 31, 3) := by decide +kernel
theorem dX3_takeGoods_87 : decode cX3_takeGoods 87 = .ok (.iconst 0, 1) := by decide +kernel
theorem dX3_takeGoods_88 : decode cX3_takeGoods 88 = .ok (.bipush 10, 2) := by decide +kernel
theorem dX3_takeGoods_90 : decode cX3_takeGoods 90 = .ok (.invokestatic 73, 3) := by decide +kernel
theorem dX3_takeGoods_93 : decode cX3_takeGoods 93 = .ok (.aload_n 0, 1) := by decide +kernel
theorem dX3_takeGoods_94 : decode cX3_takeGoods 94 = .ok (.aload_n 1, 1) := by decide +kernel
theorem dX3_takeGoods_95 : decode cX3_takeGoods 95 = .ok (.getfield 34, 3) := by decide +kernel
theorem dX3_takeGoods_98 : decode cX3_takeGoods 98 = .ok (.putfield 34, 3) := by decide +kernel
theorem dX3_takeGoods_101 : decode cX3_takeGoods 101 = .ok (.aload_n 1, 1) := by decide +kernel
theorem dX3_takeGoods_102 : decode cX3_takeGoods 102 = .ok (.getfield 37, 3) := by decide +kernel
theorem dX3_takeGoods_105 : decode cX3_takeGoods 105 = .ok (.iconst 0, 1) := by decide +kernel
theorem dX3_takeGoods_106 : decode cX3_takeGoods 106 = .ok (.aload_n 0, 1) := by decide +kernel
theorem dX3_takeGoods_107 : decode cX3_takeGoods 107 = .ok (.getfield 37, 3) := by decide +kernel
theorem dX3_takeGoods_110 : decode cX3_takeGoods 110 = .ok (.iconst 0, 1) := by decide +kernel
theorem dX3_takeGoods_111 : decode cX3_takeGoods 111 = .ok (.iconst 5, 1) := by decide +kernel
theorem dX3_takeGoods_112 : decode cX3_takeGoods 112 = .ok (.invokestatic 73, 3) := by decide +kernel
theorem dX3_takeGoods_115 : decode cX3_takeGoods 115 = .ok (.aload_n 1, 1) := by decide +kernel
theorem dX3_takeGoods_116 : decode cX3_takeGoods 116 = .ok (.getfield 40, 3) := by decide +kernel
theorem dX3_takeGoods_119 : decode cX3_takeGoods 119 = .ok (.iconst 0, 1) := by decide +kernel
theorem dX3_takeGoods_120 : decode cX3_takeGoods 120 = .ok (.aload_n 0, 1) := by decide +kernel
theorem dX3_takeGoods_121 : decode cX3_takeGoods 121 = .ok (.getfield 40, 3) := by decide +kernel
theorem dX3_takeGoods_124 : decode cX3_takeGoods 124 = .ok (.iconst 0, 1) := by decide +kernel
theorem dX3_takeGoods_125 : decode cX3_takeGoods 125 = .ok (.iconst 5, 1) := by decide +kernel
theorem dX3_takeGoods_126 : decode cX3_takeGoods 126 = .ok (.invokestatic 73, 3) := by decide +kernel
theorem dX3_takeGoods_129 : decode cX3_takeGoods 129 = .ok (.return_, 1) := by decide +kernel
theorem dX3_takeAll_0 : decode cX3_takeAll 0 = .ok (.aload_n 0, 1) := by decide +kernel
theorem dX3_takeAll_1 : decode cX3_takeAll 1 = .ok (.aload_n 1, 1) := by decide +kernel
theorem dX3_takeAll_2 : decode cX3_takeAll 2 = .ok (.invokevirtual 79, 3) := by decide +kernel
theorem dX3_takeAll_5 : decode cX3_takeAll 5 = .ok (.aload_n 1, 1) := by decide +kernel
theorem dX3_takeAll_6 : decode cX3_takeAll 6 = .ok (.getfield 43, 3) := by decide +kernel
theorem dX3_takeAll_9 : decode cX3_takeAll 9 = .ok (.iconst 0, 1) := by decide +kernel
theorem dX3_takeAll_10 : decode cX3_takeAll 10 = .ok (.aload_n 0, 1) := by decide +kernel
theorem dX3_takeAll_11 : decode cX3_takeAll 11 = .ok (.getfield 43, 3) := by decide +kernel
theorem dX3_takeAll_14 : decode cX3_takeAll 14 = .ok (.iconst 0, 1) := by decide +kernel
theorem dX3_takeAll_15 : decode cX3_takeAll 15 = .ok (.iconst 3, 1) := by decide +kernel
theorem dX3_takeAll_16 : decode cX3_takeAll 16 = .ok (.invokestatic 73, 3) := by decide +kernel
theorem dX3_takeAll_19 : decode cX3_takeAll 19 = .ok (.aload_n 1, 1) := by decide +kernel
theorem dX3_takeAll_20 : decode cX3_takeAll 20 = .ok (.getfield 46, 3) := by decide +kernel
theorem dX3_takeAll_23 : decode cX3_takeAll 23 = .ok (.iconst 0, 1) := by decide +kernel
theorem dX3_takeAll_24 : decode cX3_takeAll 24 = .ok (.aload_n 0, 1) := by decide +kernel
theorem dX3_takeAll_25 : decode cX3_takeAll 25 = .ok (.getfield 46, 3) := by decide +kernel
theorem dX3_takeAll_28 : decode cX3_takeAll 28 = .ok (.iconst 0, 1) := by decide +kernel
theorem dX3_takeAll_29 : decode cX3_takeAll 29 = .ok (.iconst 3, 1) := by decide +kernel
theorem dX3_takeAll_30 : decode cX3_takeAll 30 = .ok (.invokestatic 73, 3) := by decide +kernel
theorem dX3_takeAll_33 : decode cX3_takeAll 33 = .ok (.aload_n 1, 1) := by decide +kernel
theorem dX3_takeAll_34 : decode cX3_takeAll 34 = .ok (.getfield 49, 3) := by decide +kernel
theorem dX3_takeAll_37 : decode cX3_takeAll 37 = .ok (.iconst 0, 1) := by decide +kernel
theorem dX3_takeAll_38 : decode cX3_takeAll 38 = .ok (.aload_n 0, 1) := by decide +kernel
theorem dX3_takeAll_39 : decode cX3_takeAll 39 = .ok (.getfield 49, 3) := by decide +kernel
theorem dX3_takeAll_42 : decode cX3_takeAll 42 = .ok (.iconst 0, 1) := by decide +kernel
theorem dX3_takeAll_43 : decode cX3_takeAll 43 = .ok (.iconst 2, 1) := by decide +kernel
theorem dX3_takeAll_44 : decode cX3_takeAll 44 = .ok (.invokestatic 73, 3) := by decide +kernel
theorem dX3_takeAll_47 : decode cX3_takeAll 47 = .ok (.aload_n 0, 1) := by decide +kernel
theorem dX3_takeAll_48 : decode cX3_takeAll 48 = .ok (.aload_n 1, 1) := by decide +kernel
theorem dX3_takeAll_49 : decode cX3_takeAll 49 = .ok (.getfield 52, 3) := by decide +kernel
theorem dX3_takeAll_52 : decode cX3_takeAll 52 = .ok (.putfield 52, 3) := by decide +kernel
theorem dX3_takeAll_55 : decode cX3_takeAll 55 = .ok (.aload_n 1, 1) := by decide +kernel
theorem dX3_takeAll_56 : decode cX3_takeAll 56 = .ok (.getfield 55, 3) := by decide +kernel
theorem dX3_takeAll_59 : decode cX3_takeAll 59 = .ok (.iconst 0, 1) := by decide +kernel
theorem dX3_takeAll_60 : decode cX3_takeAll 60 = .ok (.aload_n 0, 1) := by decide +kernel
theorem dX3_takeAll_61 : decode cX3_takeAll 61 = .ok (.getfield 55, 3) := by decide +kernel
theorem dX3_takeAll_64 : decode cX3_takeAll 64 = .ok (.iconst 0, 1) := by decide +kernel
theorem dX3_takeAll_65 : decode cX3_takeAll 65 = .ok (.bipush 8, 2) := by decide +kernel
theorem dX3_takeAll_67 : decode cX3_takeAll 67 = .ok (.invokestatic 73, 3) := by decide +kernel
theorem dX3_takeAll_70 : decode cX3_takeAll 70 = .ok (.aload_n 1, 1) := by decide +kernel
theorem dX3_takeAll_71 : decode cX3_takeAll 71 = .ok (.getfield 58, 3) := by decide +kernel
theorem dX3_takeAll_74 : decode cX3_takeAll 74 = .ok (.iconst 0, 1) := by decide +kernel
theorem dX3_takeAll_75 : decode cX3_takeAll 75 = .ok (.aload_n 0, 1) := by decide +kernel
theorem dX3_takeAll_76 : decode cX3_takeAll 76 = .ok (.getfield 58, 3) := by decide +kernel
theorem dX3_takeAll_79 : decode cX3_takeAll 79 = .ok (.iconst 0, 1) := by decide +kernel
theorem dX3_takeAll_80 : decode cX3_takeAll 80 = .ok (.bipush 8, 2) := by decide +kernel
theorem dX3_takeAll_82 : decode cX3_takeAll 82 = .ok (.invokestatic 73, 3) := by decide +kernel
theorem dX3_takeAll_85 : decode cX3_takeAll 85 = .ok (.aload_n 1, 1) := by decide +kernel
theorem dX3_takeAll_86 : decode cX3_takeAll 86 = .ok (.getfield 61, 3) := by decide +kernel
theorem dX3_takeAll_89 : decode cX3_takeAll 89 = .ok (.iconst 0, 1) := by decide +kernel
theorem dX3_takeAll_90 : decode cX3_takeAll 90 = .ok (.aload_n 0, 1) := by decide +kernel
theorem dX3_takeAll_91 : decode cX3_takeAll 91 = .ok (.getfield 61, 3) := by decide +kernel
theorem dX3_takeAll_94 : decode cX3_takeAll 94 = .ok (.iconst 0, 1) := by decide +kernel
theorem dX3_takeAll_95 : decode cX3_takeAll 95 = .ok (.bipush 8, 2) := by decide +kernel
theorem dX3_takeAll_97 : decode cX3_takeAll 97 = .ok (.invokestatic 73, 3) := by decide +kernel
theorem dX3_takeAll_100 : decode cX3_takeAll 100 = .ok (.aload_n 0, 1) := by decide +kernel
theorem dX3_takeAll_101 : decode cX3_takeAll 101 = .ok (.aload_n 1, 1) := by decide +kernel
theorem dX3_takeAll_102 : decode cX3_takeAll 102 = .ok (.getfield 64, 3) := by decide +kernel
theorem dX3_takeAll_105 : decode cX3_takeAll 105 = .ok (.putfield 64, 3) := by decide +kernel
theorem dX3_takeAll_108 : decode cX3_takeAll 108 = .ok (.aload_n 1, 1) := by decide +kernel
theorem dX3_takeAll_109 : decode cX3_takeAll 109 = .ok (.getfield 67, 3) := by decide +kernel
theorem dX3_takeAll_112 : decode cX3_takeAll 112 = .ok (.iconst 0, 1) := by decide +kernel
theorem dX3_takeAll_113 : decode cX3_takeAll 113 = .ok (.aload_n 0, 1) := by decide +kernel
theorem dX3_takeAll_114 : decode cX3_takeAll 114 = .ok (.getfield 67, 3) := by decide +kernel
theorem dX3_takeAll_117 : decode cX3_takeAll 117 = .ok (.iconst 0, 1) := by decide +kernel
theorem dX3_takeAll_118 : decode cX3_takeAll 118 = .ok (.bipush 6, 2) := by decide +kernel
theorem dX3_takeAll_120 : decode cX3_takeAll 120 = .ok (.invokestatic 73, 3) := by decide +kernel
theorem dX3_takeAll_123 : decode cX3_takeAll 123 = .ok (.aload_n 1, 1) := by decide +kernel
theorem dX3_takeAll_124 : decode cX3_takeAll 124 = .ok (.getfield 70, 3) := by decide +kernel
theorem dX3_takeAll_127 : decode cX3_takeAll 127 = .ok (.iconst 0, 1) := by decide +kernel
theorem dX3_takeAll_128 : decode cX3_takeAll 128 = .ok (.aload_n 0, 1) := by decide +kernel
theorem dX3_takeAll_129 : decode cX3_takeAll 129 = .ok (.getfield 70, 3) := by decide +kernel
theorem dX3_takeAll_132 : decode cX3_takeAll 132 = .ok (.iconst 0, 1) := by decide +kernel
theorem dX3_takeAll_133 : decode cX3_takeAll 133 = .ok (.bipush 6, 2) := by decide +kernel
theorem dX3_takeAll_135 : decode cX3_takeAll 135 = .ok (.invokestatic 73, 3) := by decide +kernel
theorem dX3_takeAll_138 : decode cX3_takeAll 138 = .ok (.return_, 1) := by decide +kernel
theorem dX3_steepness_0 : decode cX3_steepness 0 = .ok (.iconst 1, 1) := by decide +kernel
theorem dX3_steepness_1 : decode cX3_steepness 1 = .ok (.aload_n 0, 1) := by decide +kernel
theorem dX3_steepness_2 : decode cX3_steepness 2 = .ok (.getfield 40, 3) := by decide +kernel
theorem dX3_steepness_5 : decode cX3_steepness 5 = .ok (.iload_n 1, 1) := by decide +kernel
theorem dX3_steepness_6 : decode cX3_steepness 6 = .ok (.iaload, 1) := by decide +kernel
theorem dX3_steepness_7 : decode cX3_steepness 7 = .ok (.iadd, 1) := by decide +kernel
theorem dX3_steepness_8 : decode cX3_steepness 8 = .ok (.ireturn, 1) := by decide +kernel
theorem dX3_wholeWay_0 : decode cX3_wholeWay 0 = .ok (.iconst 0, 1) := by decide +kernel
theorem dX3_wholeWay_1 : decode cX3_wholeWay 1 = .ok (.istore_n 1, 1) := by decide +kernel
theorem dX3_wholeWay_2 : decode cX3_wholeWay 2 = .ok (.iconst 0, 1) := by decide +kernel
theorem dX3_wholeWay_3 : decode cX3_wholeWay 3 = .ok (.istore_n 2, 1) := by decide +kernel
theorem dX3_wholeWay_4 : decode cX3_wholeWay 4 = .ok (.iload_n 2, 1) := by decide +kernel
theorem dX3_wholeWay_5 : decode cX3_wholeWay 5 = .ok (.aload_n 0, 1) := by decide +kernel
theorem dX3_wholeWay_6 : decode cX3_wholeWay 6 = .ok (.getfield 34, 3) := by decide +kernel
theorem dX3_wholeWay_9 : decode cX3_wholeWay 9 = .ok (.if_icmp .ge 18, 3) := by decide +kernel
theorem dX3_wholeWay_12 : decode cX3_wholeWay 12 = .ok (.iload_n 1, 1) := by decide +kernel
theorem dX3_wholeWay_13 : decode cX3_wholeWay 13 = .ok (.aload_n 0, 1) := by decide +kernel
theorem dX3_wholeWay_14 : decode cX3_wholeWay 14 = .ok (.getfield 37, 3) := by decide +kernel
theorem dX3_wholeWay_17 : decode cX3_wholeWay 17 = .ok (.iload_n 2, 1) := by decide +kernel
theorem dX3_wholeWay_18 : decode cX3_wholeWay 18 = .ok (.iaload, 1) := by decide +kernel
theorem dX3_wholeWay_19 : decode cX3_wholeWay 19 = .ok (.iadd, 1) := by decide +kernel
theorem dX3_wholeWay_20 : decode cX3_wholeWay 20 = .ok (.istore_n 1, 1) := by decide +kernel
theorem dX3_wholeWay_21 : decode cX3_wholeWay 21 = .ok (.iinc 2 1, 3) := by decide +kernel
theorem dX3_wholeWay_24 : decode cX3_wholeWay 24 = .ok (.goto (-20), 3) := by decide +kernel
theorem dX3_wholeWay_27 : decode cX3_wholeWay 27 = .ok (.iload_n 1, 1) := by decide +kernel
theorem dX3_wholeWay_28 : decode cX3_wholeWay 28 = .ok (.ireturn, 1) := by decide +kernel
theorem dX3_thingLoad_0 : decode cX3_thingLoad 0 = .ok (.iload_n 2, 1) := by decide +kernel
theorem dX3_thingLoad_1 : decode cX3_thingLoad 1 = .ok (.aload_n 0, 1) := by decide +kernel
theorem dX3_thingLoad_2 : decode cX3_thingLoad 2 = .ok (.getfield 25, 3) := by decide +kernel
theorem dX3_thingLoad_5 : decode cX3_thingLoad 5 = .ok (.iload_n 1, 1) := by decide +kernel
theorem dX3_thingLoad_6 : decode cX3_thingLoad 6 = .ok (.iaload, 1) := by decide +kernel
theorem dX3_thingLoad_7 : decode cX3_thingLoad 7 = .ok (.if_icmp .lt 5, 3) := by decide +kernel
theorem dX3_thingLoad_10 : decode cX3_thingLoad 10 = .ok (.iconst 0, 1) := by decide +kernel
theorem dX3_thingLoad_11 : decode cX3_thingLoad 11 = .ok (.ireturn, 1) := by decide +kernel
theorem dX3_thingLoad_12 : decode cX3_thingLoad 12 = .ok (.iconst 0, 1) := by decide +kernel
theorem dX3_thingLoad_13 : decode cX3_thingLoad 13 = .ok (.aload_n 0, 1) := by decide +kernel
theorem dX3_thingLoad_14 : decode cX3_thingLoad 14 = .ok (.getfield 22, 3) := by decide +kernel
theorem dX3_thingLoad_17 : decode cX3_thingLoad 17 = .ok (.iload_n 1, 1) := by decide +kernel
theorem dX3_thingLoad_18 : decode cX3_thingLoad 18 = .ok (.iaload, 1) := by decide +kernel
theorem dX3_thingLoad_19 : decode cX3_thingLoad 19 = .ok (.getstatic 83, 3) := by decide +kernel
theorem dX3_thingLoad_22 : decode cX3_thingLoad 22 = .ok (.aload_n 0, 1) := by decide +kernel
theorem dX3_thingLoad_23 : decode cX3_thingLoad 23 = .ok (.getfield 18, 3) := by decide +kernel
theorem dX3_thingLoad_26 : decode cX3_thingLoad 26 = .ok (.iload_n 1, 1) := by decide +kernel
theorem dX3_thingLoad_27 : decode cX3_thingLoad 27 = .ok (.iaload, 1) := by decide +kernel
theorem dX3_thingLoad_28 : decode cX3_thingLoad 28 = .ok (.iaload, 1) := by decide +kernel
theorem dX3_thingLoad_29 : decode cX3_thingLoad 29 = .ok (.iload_n 2, 1) := by decide +kernel
theorem dX3_thingLoad_30 : decode cX3_thingLoad 30 = .ok (.imul, 1) := by decide +kernel
theorem dX3_thingLoad_31 : decode cX3_thingLoad 31 = .ok (.isub, 1) := by decide +kernel
theorem dX3_thingLoad_32 : decode cX3_thingLoad 32 = .ok (.invokestatic 86, 3) := by decide +kernel
theorem dX3_thingLoad_35 : decode cX3_thingLoad 35 = .ok (.ireturn, 1) := by decide +kernel
theorem dX3_isWet_0 : decode cX3_isWet 0 = .ok (.getstatic 83, 3) := by decide +kernel
theorem dX3_isWet_3 : decode cX3_isWet 3 = .ok (.aload_n 0, 1) := by decide +kernel
theorem dX3_isWet_4 : decode cX3_isWet 4 = .ok (.getfield 18, 3) := by decide +kernel
theorem dX3_isWet_7 : decode cX3_isWet 7 = .ok (.iload_n 1, 1) := by decide +kernel
theorem dX3_isWet_8 : decode cX3_isWet 8 = .ok (.iaload, 1) := by decide +kernel
theorem dX3_isWet_9 : decode cX3_isWet 9 = .ok (.iaload, 1) := by decide +kernel
theorem dX3_isWet_10 : decode cX3_isWet 10 = .ok (.ifCond .le 7, 3) := by decide +kernel
theorem dX3_isWet_13 : decode cX3_isWet 13 = .ok (.iconst 1, 1) := by decide +kernel
theorem dX3_isWet_14 : decode cX3_isWet 14 = .ok (.goto 4, 3) := by decide +kernel
theorem dX3_isWet_17 : decode cX3_isWet 17 = .ok (.iconst 0, 1) := by decide +kernel
theorem dX3_isWet_18 : decode cX3_isWet 18 = .ok (.ireturn, 1) := by decide +kernel
theorem dX3_bagLoad_0 : decode cX3_bagLoad 0 = .ok (.iconst 0, 1) := by decide +kernel
theorem dX3_bagLoad_1 : decode cX3_bagLoad 1 = .ok (.istore_n 3, 1) := by decide +kernel
theorem dX3_bagLoad_2 : decode cX3_bagLoad 2 = .ok (.iconst 0, 1) := by decide +kernel
theorem dX3_bagLoad_3 : decode cX3_bagLoad 3 = .ok (.istore 4, 2) := by decide +kernel
theorem dX3_bagLoad_5 : decode cX3_bagLoad 5 = .ok (.iload 4, 2) := by decide +kernel
theorem dX3_bagLoad_7 : decode cX3_bagLoad 7 = .ok (.aload_n 0, 1) := by decide +kernel
theorem dX3_bagLoad_8 : decode cX3_bagLoad 8 = .ok (.getfield 15, 3) := by decide +kernel
theorem dX3_bagLoad_11 : decode cX3_bagLoad 11 = .ok (.if_icmp .ge 34, 3) := by decide +kernel
theorem dX3_bagLoad_14 : decode cX3_bagLoad 14 = .ok (.iload_n 3, 1) := by decide +kernel
theorem dX3_bagLoad_15 : decode cX3_bagLoad 15 = .ok (.aload_n 0, 1) := by decide +kernel
theorem dX3_bagLoad_16 : decode cX3_bagLoad 16 = .ok (.getfield 31, 3) := by decide +kernel
theorem dX3_bagLoad_19 : decode cX3_bagLoad 19 = .ok (.iload 4, 2) := by decide +kernel
theorem dX3_bagLoad_21 : decode cX3_bagLoad 21 = .ok (.iaload, 1) := by decide +kernel
theorem dX3_bagLoad_22 : decode cX3_bagLoad 22 = .ok (.iload_n 1, 1) := by decide +kernel
theorem dX3_bagLoad_23 : decode cX3_bagLoad 23 = .ok (.if_icmp .ne 13, 3) := by decide +kernel
theorem dX3_bagLoad_26 : decode cX3_bagLoad 26 = .ok (.aload_n 0, 1) := by decide +kernel
theorem dX3_bagLoad_27 : decode cX3_bagLoad 27 = .ok (.iload 4, 2) := by decide +kernel
theorem dX3_bagLoad_29 : decode cX3_bagLoad 29 = .ok (.iload_n 2, 1) := by decide +kernel
theorem dX3_bagLoad_30 : decode cX3_bagLoad 30 = .ok (.invokevirtual 92, 3) := by decide +kernel
theorem dX3_bagLoad_33 : decode cX3_bagLoad 33 = .ok (.goto 4, 3) := by decide +kernel
theorem dX3_bagLoad_36 : decode cX3_bagLoad 36 = .ok (.iconst 0, 1) := by decide +kernel
theorem dX3_bagLoad_37 : decode cX3_bagLoad 37 = .ok (.iadd, 1) := by decide +kernel
theorem dX3_bagLoad_38 : decode cX3_bagLoad 38 = .ok (.istore_n 3, 1) := by decide +kernel
theorem dX3_bagLoad_39 : decode cX3_bagLoad 39 = .ok (.iinc 4 1, 3) := by decide +kernel
theorem dX3_bagLoad_42 : decode cX3_bagLoad 42 = .ok (.goto (-37), 3) := by decide +kernel
theorem dX3_bagLoad_45 : decode cX3_bagLoad 45 = .ok (.iload_n 3, 1) := by decide +kernel
theorem dX3_bagLoad_46 : decode cX3_bagLoad 46 = .ok (.ireturn, 1) := by decide +kernel
theorem dX3_wetLoad_0 : decode cX3_wetLoad 0 = .ok (.iconst 0, 1) := by decide +kernel
theorem dX3_wetLoad_1 : decode cX3_wetLoad 1 = .ok (.istore_n 3, 1) := by decide +kernel
theorem dX3_wetLoad_2 : decode cX3_wetLoad 2 = .ok (.iconst 0, 1) := by decide +kernel
theorem dX3_wetLoad_3 : decode cX3_wetLoad 3 = .ok (.istore 4, 2) := by decide +kernel
theorem dX3_wetLoad_5 : decode cX3_wetLoad 5 = .ok (.iload 4, 2) := by decide +kernel
theorem dX3_wetLoad_7 : decode cX3_wetLoad 7 = .ok (.aload_n 0, 1) := by decide +kernel
theorem dX3_wetLoad_8 : decode cX3_wetLoad 8 = .ok (.getfield 15, 3) := by decide +kernel
theorem dX3_wetLoad_11 : decode cX3_wetLoad 11 = .ok (.if_icmp .ge 43, 3) := by decide +kernel
theorem dX3_wetLoad_14 : decode cX3_wetLoad 14 = .ok (.iload_n 3, 1) := by decide +kernel
theorem dX3_wetLoad_15 : decode cX3_wetLoad 15 = .ok (.aload_n 0, 1) := by decide +kernel
theorem dX3_wetLoad_16 : decode cX3_wetLoad 16 = .ok (.getfield 31, 3) := by decide +kernel
theorem dX3_wetLoad_19 : decode cX3_wetLoad 19 = .ok (.iload 4, 2) := by decide +kernel
theorem dX3_wetLoad_21 : decode cX3_wetLoad 21 = .ok (.iaload, 1) := by decide +kernel
theorem dX3_wetLoad_22 : decode cX3_wetLoad 22 = .ok (.iload_n 1, 1) := by decide +kernel
theorem dX3_wetLoad_23 : decode cX3_wetLoad 23 = .ok (.if_icmp .ne 22, 3) := by decide +kernel
theorem dX3_wetLoad_26 : decode cX3_wetLoad 26 = .ok (.aload_n 0, 1) := by decide +kernel
theorem dX3_wetLoad_27 : decode cX3_wetLoad 27 = .ok (.iload 4, 2) := by decide +kernel
theorem dX3_wetLoad_29 : decode cX3_wetLoad 29 = .ok (.invokevirtual 95, 3) := by decide +kernel
theorem dX3_wetLoad_32 : decode cX3_wetLoad 32 = .ok (.ifCond .eq 13, 3) := by decide +kernel
theorem dX3_wetLoad_35 : decode cX3_wetLoad 35 = .ok (.aload_n 0, 1) := by decide +kernel
theorem dX3_wetLoad_36 : decode cX3_wetLoad 36 = .ok (.iload 4, 2) := by decide +kernel
theorem dX3_wetLoad_38 : decode cX3_wetLoad 38 = .ok (.iload_n 2, 1) := by decide +kernel
theorem dX3_wetLoad_39 : decode cX3_wetLoad 39 = .ok (.invokevirtual 92, 3) := by decide +kernel
theorem dX3_wetLoad_42 : decode cX3_wetLoad 42 = .ok (.goto 4, 3) := by decide +kernel
theorem dX3_wetLoad_45 : decode cX3_wetLoad 45 = .ok (.iconst 0, 1) := by decide +kernel
theorem dX3_wetLoad_46 : decode cX3_wetLoad 46 = .ok (.iadd, 1) := by decide +kernel
theorem dX3_wetLoad_47 : decode cX3_wetLoad 47 = .ok (.istore_n 3, 1) := by decide +kernel
theorem dX3_wetLoad_48 : decode cX3_wetLoad 48 = .ok (.iinc 4 1, 3) := by decide +kernel
theorem dX3_wetLoad_51 : decode cX3_wetLoad 51 = .ok (.goto (-46), 3) := by decide +kernel
theorem dX3_wetLoad_54 : decode cX3_wetLoad 54 = .ok (.iload_n 3, 1) := by decide +kernel
theorem dX3_wetLoad_55 : decode cX3_wetLoad 55 = .ok (.ireturn, 1) := by decide +kernel
theorem dX3_offBetween_0 : decode cX3_offBetween 0 = .ok (.iload_n 1, 1) := by decide +kernel
theorem dX3_offBetween_1 : decode cX3_offBetween 1 = .ok (.aload_n 0, 1) := by decide +kernel
theorem dX3_offBetween_2 : decode cX3_offBetween 2 = .ok (.getfield 49, 3) := by decide +kernel
theorem dX3_offBetween_5 : decode cX3_offBetween 5 = .ok (.iconst 1, 1) := by decide +kernel
theorem dX3_offBetween_6 : decode cX3_offBetween 6 = .ok (.iaload, 1) := by decide +kernel
theorem dX3_offBetween_7 : decode cX3_offBetween 7 = .ok (.imul, 1) := by decide +kernel
theorem dX3_offBetween_8 : decode cX3_offBetween 8 = .ok (.iload_n 2, 1) := by decide +kernel
theorem dX3_offBetween_9 : decode cX3_offBetween 9 = .ok (.aload_n 0, 1) := by decide +kernel
theorem dX3_offBetween_10 : decode cX3_offBetween 10 = .ok (.getfield 49, 3) := by decide +kernel
theorem dX3_offBetween_13 : decode cX3_offBetween 13 = .ok (.iconst 0, 1) := by decide +kernel
theorem dX3_offBetween_14 : decode cX3_offBetween 14 = .ok (.iaload, 1) := by decide +kernel
theorem dX3_offBetween_15 : decode cX3_offBetween 15 = .ok (.imul, 1) := by decide +kernel
theorem dX3_offBetween_16 : decode cX3_offBetween 16 = .ok (.isub, 1) := by decide +kernel
theorem dX3_offBetween_17 : decode cX3_offBetween 17 = .ok (.ireturn, 1) := by decide +kernel
theorem dX3_offOn_0 : decode cX3_offOn 0 = .ok (.aload_n 0, 1) := by decide +kernel
theorem dX3_offOn_1 : decode cX3_offOn 1 = .ok (.aload_n 0, 1) := by decide +kernel
theorem dX3_offOn_2 : decode cX3_offOn 2 = .ok (.iconst 0, 1) := by decide +kernel
theorem dX3_offOn_3 : decode cX3_offOn 3 = .ok (.iload_n 1, 1) := by decide +kernel
theorem dX3_offOn_4 : decode cX3_offOn 4 = .ok (.invokevirtual 99, 3) := by decide +kernel
theorem dX3_offOn_7 : decode cX3_offOn 7 = .ok (.aload_n 0, 1) := by decide +kernel
theorem dX3_offOn_8 : decode cX3_offOn 8 = .ok (.iconst 1, 1) := by decide +kernel
theorem dX3_offOn_9 : decode cX3_offOn 9 = .ok (.iload_n 1, 1) := by decide +kernel
theorem dX3_offOn_10 : decode cX3_offOn 10 = .ok (.invokevirtual 99, 3) := by decide +kernel
theorem dX3_offOn_13 : decode cX3_offOn 13 = .ok (.invokevirtual 102, 3) := by decide +kernel
theorem dX3_offOn_16 : decode cX3_offOn 16 = .ok (.ireturn, 1) := by decide +kernel
theorem dX3_worst_0 : decode cX3_worst 0 = .ok (.iconst 0, 1) := by decide +kernel
theorem dX3_worst_1 : decode cX3_worst 1 = .ok (.istore_n 1, 1) := by decide +kernel
theorem dX3_worst_2 : decode cX3_worst 2 = .ok (.iconst 0, 1) := by decide +kernel
theorem dX3_worst_3 : decode cX3_worst 3 = .ok (.istore_n 2, 1) := by decide +kernel
theorem dX3_worst_4 : decode cX3_worst 4 = .ok (.iload_n 2, 1) := by decide +kernel
theorem dX3_worst_5 : decode cX3_worst 5 = .ok (.aload_n 0, 1) := by decide +kernel
theorem dX3_worst_6 : decode cX3_worst 6 = .ok (.getfield 34, 3) := by decide +kernel
theorem dX3_worst_9 : decode cX3_worst 9 = .ok (.if_icmp .ge 22, 3) := by decide +kernel
theorem dX3_worst_12 : decode cX3_worst 12 = .ok (.iload_n 1, 1) := by decide +kernel
theorem dX3_worst_13 : decode cX3_worst 13 = .ok (.aload_n 0, 1) := by decide +kernel
theorem dX3_worst_14 : decode cX3_worst 14 = .ok (.iload_n 2, 1) := by decide +kernel
theorem dX3_worst_15 : decode cX3_worst 15 = .ok (.invokevirtual 105, 3) := by decide +kernel
theorem dX3_worst_18 : decode cX3_worst 18 = .ok (.invokestatic 109, 3) := by decide +kernel
theorem dX3_worst_21 : decode cX3_worst 21 = .ok (.invokestatic 86, 3) := by decide +kernel
theorem dX3_worst_24 : decode cX3_worst 24 = .ok (.istore_n 1, 1) := by decide +kernel
theorem dX3_worst_25 : decode cX3_worst 25 = .ok (.iinc 2 1, 3) := by decide +kernel
theorem dX3_worst_28 : decode cX3_worst 28 = .ok (.goto (-24), 3) := by decide +kernel
theorem dX3_worst_31 : decode cX3_worst 31 = .ok (.iload_n 1, 1) := by decide +kernel
theorem dX3_worst_32 : decode cX3_worst 32 = .ok (.ireturn, 1) := by decide +kernel
theorem dX3_whole_0 : decode cX3_whole 0 = .ok (.iconst 0, 1) := by decide +kernel
theorem dX3_whole_1 : decode cX3_whole 1 = .ok (.istore_n 1, 1) := by decide +kernel
theorem dX3_whole_2 : decode cX3_whole 2 = .ok (.iconst 0, 1) := by decide +kernel
theorem dX3_whole_3 : decode cX3_whole 3 = .ok (.istore_n 2, 1) := by decide +kernel
theorem dX3_whole_4 : decode cX3_whole 4 = .ok (.iload_n 2, 1) := by decide +kernel
theorem dX3_whole_5 : decode cX3_whole 5 = .ok (.aload_n 0, 1) := by decide +kernel
theorem dX3_whole_6 : decode cX3_whole 6 = .ok (.getfield 34, 3) := by decide +kernel
theorem dX3_whole_9 : decode cX3_whole 9 = .ok (.if_icmp .ge 33, 3) := by decide +kernel
theorem dX3_whole_12 : decode cX3_whole 12 = .ok (.iload_n 1, 1) := by decide +kernel
theorem dX3_whole_13 : decode cX3_whole 13 = .ok (.aload_n 0, 1) := by decide +kernel
theorem dX3_whole_14 : decode cX3_whole 14 = .ok (.iload_n 2, 1) := by decide +kernel
theorem dX3_whole_15 : decode cX3_whole 15 = .ok (.invokevirtual 105, 3) := by decide +kernel
theorem dX3_whole_18 : decode cX3_whole 18 = .ok (.invokestatic 109, 3) := by decide +kernel
theorem dX3_whole_21 : decode cX3_whole 21 = .ok (.aload_n 0, 1) := by decide +kernel
theorem dX3_whole_22 : decode cX3_whole 22 = .ok (.getfield 37, 3) := by decide +kernel
theorem dX3_whole_25 : decode cX3_whole 25 = .ok (.iload_n 2, 1) := by decide +kernel
theorem dX3_whole_26 : decode cX3_whole 26 = .ok (.iaload, 1) := by decide +kernel
theorem dX3_whole_27 : decode cX3_whole 27 = .ok (.imul, 1) := by decide +kernel
theorem dX3_whole_28 : decode cX3_whole 28 = .ok (.aload_n 0, 1) := by decide +kernel
theorem dX3_whole_29 : decode cX3_whole 29 = .ok (.iload_n 2, 1) := by decide +kernel
theorem dX3_whole_30 : decode cX3_whole 30 = .ok (.invokevirtual 112, 3) := by decide +kernel
theorem dX3_whole_33 : decode cX3_whole 33 = .ok (.imul, 1) := by decide +kernel
theorem dX3_whole_34 : decode cX3_whole 34 = .ok (.iadd, 1) := by decide +kernel
theorem dX3_whole_35 : decode cX3_whole 35 = .ok (.istore_n 1, 1) := by decide +kernel
theorem dX3_whole_36 : decode cX3_whole 36 = .ok (.iinc 2 1, 3) := by decide +kernel
theorem dX3_whole_39 : decode cX3_whole 39 = .ok (.goto (-35), 3) := by decide +kernel
theorem dX3_whole_42 : decode cX3_whole 42 = .ok (.iload_n 1, 1) := by decide +kernel
theorem dX3_whole_43 : decode cX3_whole 43 = .ok (.ireturn, 1) := by decide +kernel
theorem dX3_whyUnlawful_0 : decode cX3_whyUnlawful 0 = .ok (.aload_n 0, 1) := by decide +kernel
theorem dX3_whyUnlawful_1 : decode cX3_whyUnlawful 1 = .ok (.invokevirtual 115, 3) := by decide +kernel
theorem dX3_whyUnlawful_4 : decode cX3_whyUnlawful 4 = .ok (.ifCond .ne 5, 3) := by decide +kernel
theorem dX3_whyUnlawful_7 : decode cX3_whyUnlawful 7 = .ok (.iconst 1, 1) := by decide +kernel
theorem dX3_whyUnlawful_8 : decode cX3_whyUnlawful 8 = .ok (.ireturn, 1) := by decide +kernel
theorem dX3_whyUnlawful_9 : decode cX3_whyUnlawful 9 = .ok (.iconst 0, 1) := by decide +kernel
theorem dX3_whyUnlawful_10 : decode cX3_whyUnlawful 10 = .ok (.istore_n 1, 1) := by decide +kernel
theorem dX3_whyUnlawful_11 : decode cX3_whyUnlawful 11 = .ok (.iload_n 1, 1) := by decide +kernel
theorem dX3_whyUnlawful_12 : decode cX3_whyUnlawful 12 = .ok (.aload_n 0, 1) := by decide +kernel
theorem dX3_whyUnlawful_13 : decode cX3_whyUnlawful 13 = .ok (.getfield 15, 3) := by decide +kernel
theorem dX3_whyUnlawful_16 : decode cX3_whyUnlawful 16 = .ok (.if_icmp .ge 23, 3) := by decide +kernel
theorem dX3_whyUnlawful_19 : decode cX3_whyUnlawful 19 = .ok (.aload_n 0, 1) := by decide +kernel
theorem dX3_whyUnlawful_20 : decode cX3_whyUnlawful 20 = .ok (.aload_n 0, 1) := by decide +kernel
theorem dX3_whyUnlawful_21 : decode cX3_whyUnlawful 21 = .ok (.getfield 31, 3) := by decide +kernel
theorem dX3_whyUnlawful_24 : decode cX3_whyUnlawful 24 = .ok (.iload_n 1, 1) := by decide +kernel
theorem dX3_whyUnlawful_25 : decode cX3_whyUnlawful 25 = .ok (.invokevirtual 119, 3) := by decide +kernel
theorem dX3_whyUnlawful_28 : decode cX3_whyUnlawful 28 = .ok (.ifCond .ne 5, 3) := by decide +kernel
theorem dX3_whyUnlawful_31 : decode cX3_whyUnlawful 31 = .ok (.iconst 2, 1) := by decide +kernel
theorem dX3_whyUnlawful_32 : decode cX3_whyUnlawful 32 = .ok (.ireturn, 1) := by decide +kernel
theorem dX3_whyUnlawful_33 : decode cX3_whyUnlawful 33 = .ok (.iinc 1 1, 3) := by decide +kernel
theorem dX3_whyUnlawful_36 : decode cX3_whyUnlawful 36 = .ok (.goto (-25), 3) := by decide +kernel
theorem dX3_whyUnlawful_39 : decode cX3_whyUnlawful 39 = .ok (.iconst 0, 1) := by decide +kernel
theorem dX3_whyUnlawful_40 : decode cX3_whyUnlawful 40 = .ok (.istore_n 1, 1) := by decide +kernel
theorem dX3_whyUnlawful_41 : decode cX3_whyUnlawful 41 = .ok (.iload_n 1, 1) := by decide +kernel
theorem dX3_whyUnlawful_42 : decode cX3_whyUnlawful 42 = .ok (.aload_n 0, 1) := by decide +kernel
theorem dX3_whyUnlawful_43 : decode cX3_whyUnlawful 43 = .ok (.getfield 15, 3) := by decide +kernel
theorem dX3_whyUnlawful_46 : decode cX3_whyUnlawful 46 = .ok (.if_icmp .ge 23, 3) := by decide +kernel
theorem dX3_whyUnlawful_49 : decode cX3_whyUnlawful 49 = .ok (.aload_n 0, 1) := by decide +kernel
theorem dX3_whyUnlawful_50 : decode cX3_whyUnlawful 50 = .ok (.aload_n 0, 1) := by decide +kernel
theorem dX3_whyUnlawful_51 : decode cX3_whyUnlawful 51 = .ok (.getfield 31, 3) := by decide +kernel
theorem dX3_whyUnlawful_54 : decode cX3_whyUnlawful 54 = .ok (.iload_n 1, 1) := by decide +kernel
theorem dX3_whyUnlawful_55 : decode cX3_whyUnlawful 55 = .ok (.invokevirtual 123, 3) := by decide +kernel
theorem dX3_whyUnlawful_58 : decode cX3_whyUnlawful 58 = .ok (.ifCond .ne 5, 3) := by decide +kernel
theorem dX3_whyUnlawful_61 : decode cX3_whyUnlawful 61 = .ok (.iconst 3, 1) := by decide +kernel
theorem dX3_whyUnlawful_62 : decode cX3_whyUnlawful 62 = .ok (.ireturn, 1) := by decide +kernel
theorem dX3_whyUnlawful_63 : decode cX3_whyUnlawful 63 = .ok (.iinc 1 1, 3) := by decide +kernel
theorem dX3_whyUnlawful_66 : decode cX3_whyUnlawful 66 = .ok (.goto (-25), 3) := by decide +kernel
theorem dX3_whyUnlawful_69 : decode cX3_whyUnlawful 69 = .ok (.iconst 0, 1) := by decide +kernel
theorem dX3_whyUnlawful_70 : decode cX3_whyUnlawful 70 = .ok (.ireturn, 1) := by decide +kernel
theorem dX3_bagsHold_0 : decode cX3_bagsHold 0 = .ok (.iconst 0, 1) := by decide +kernel
theorem dX3_bagsHold_1 : decode cX3_bagsHold 1 = .ok (.istore_n 1, 1) := by decide +kernel
theorem dX3_bagsHold_2 : decode cX3_bagsHold 2 = .ok (.iload_n 1, 1) := by decide +kernel
theorem dX3_bagsHold_3 : decode cX3_bagsHold 3 = .ok (.aload_n 0, 1) := by decide +kernel
theorem dX3_bagsHold_4 : decode cX3_bagsHold 4 = .ok (.getfield 34, 3) := by decide +kernel
theorem dX3_bagsHold_7 : decode cX3_bagsHold 7 = .ok (.if_icmp .ge 39, 3) := by decide +kernel
theorem dX3_bagsHold_10 : decode cX3_bagsHold 10 = .ok (.iconst 0, 1) := by decide +kernel
theorem dX3_bagsHold_11 : decode cX3_bagsHold 11 = .ok (.istore_n 2, 1) := by decide +kernel
theorem dX3_bagsHold_12 : decode cX3_bagsHold 12 = .ok (.iload_n 2, 1) := by decide +kernel
theorem dX3_bagsHold_13 : decode cX3_bagsHold 13 = .ok (.iconst 3, 1) := by decide +kernel
theorem dX3_bagsHold_14 : decode cX3_bagsHold 14 = .ok (.if_icmp .ge 26, 3) := by decide +kernel
theorem dX3_bagsHold_17 : decode cX3_bagsHold 17 = .ok (.aload_n 0, 1) := by decide +kernel
theorem dX3_bagsHold_18 : decode cX3_bagsHold 18 = .ok (.iload_n 2, 1) := by decide +kernel
theorem dX3_bagsHold_19 : decode cX3_bagsHold 19 = .ok (.iload_n 1, 1) := by decide +kernel
theorem dX3_bagsHold_20 : decode cX3_bagsHold 20 = .ok (.invokevirtual 99, 3) := by decide +kernel
theorem dX3_bagsHold_23 : decode cX3_bagsHold 23 = .ok (.aload_n 0, 1) := by decide +kernel
theorem dX3_bagsHold_24 : decode cX3_bagsHold 24 = .ok (.getfield 43, 3) := by decide +kernel
theorem dX3_bagsHold_27 : decode cX3_bagsHold 27 = .ok (.iload_n 2, 1) := by decide +kernel
theorem dX3_bagsHold_28 : decode cX3_bagsHold 28 = .ok (.iaload, 1) := by decide +kernel
theorem dX3_bagsHold_29 : decode cX3_bagsHold 29 = .ok (.if_icmp .le 5, 3) := by decide +kernel
theorem dX3_bagsHold_32 : decode cX3_bagsHold 32 = .ok (.iconst 0, 1) := by decide +kernel
theorem dX3_bagsHold_33 : decode cX3_bagsHold 33 = .ok (.ireturn, 1) := by decide +kernel
theorem dX3_bagsHold_34 : decode cX3_bagsHold 34 = .ok (.iinc 2 1, 3) := by decide +kernel
theorem dX3_bagsHold_37 : decode cX3_bagsHold 37 = .ok (.goto (-25), 3) := by decide +kernel
theorem dX3_bagsHold_40 : decode cX3_bagsHold 40 = .ok (.iinc 1 1, 3) := by decide +kernel
theorem dX3_bagsHold_43 : decode cX3_bagsHold 43 = .ok (.goto (-41), 3) := by decide +kernel
theorem dX3_bagsHold_46 : decode cX3_bagsHold 46 = .ok (.iconst 1, 1) := by decide +kernel
theorem dX3_bagsHold_47 : decode cX3_bagsHold 47 = .ok (.ireturn, 1) := by decide +kernel
theorem dX3_keepsLaws_0 : decode cX3_keepsLaws 0 = .ok (.iconst 0, 1) := by decide +kernel
theorem dX3_keepsLaws_1 : decode cX3_keepsLaws 1 = .ok (.istore_n 3, 1) := by decide +kernel
theorem dX3_keepsLaws_2 : decode cX3_keepsLaws 2 = .ok (.iload_n 3, 1) := by decide +kernel
theorem dX3_keepsLaws_3 : decode cX3_keepsLaws 3 = .ok (.aload_n 0, 1) := by decide +kernel
theorem dX3_keepsLaws_4 : decode cX3_keepsLaws 4 = .ok (.getfield 52, 3) := by decide +kernel
theorem dX3_keepsLaws_7 : decode cX3_keepsLaws 7 = .ok (.if_icmp .ge 75, 3) := by decide +kernel
theorem dX3_keepsLaws_10 : decode cX3_keepsLaws 10 = .ok (.aload_n 0, 1) := by decide +kernel
theorem dX3_keepsLaws_11 : decode cX3_keepsLaws 11 = .ok (.getfield 55, 3) := by decide +kernel
theorem dX3_keepsLaws_14 : decode cX3_keepsLaws 14 = .ok (.iload_n 3, 1) := by decide +kernel
theorem dX3_keepsLaws_15 : decode cX3_keepsLaws 15 = .ok (.iaload, 1) := by decide +kernel
theorem dX3_keepsLaws_16 : decode cX3_keepsLaws 16 = .ok (.aload_n 0, 1) := by decide +kernel
theorem dX3_keepsLaws_17 : decode cX3_keepsLaws 17 = .ok (.getfield 58, 3) := by decide +kernel
theorem dX3_keepsLaws_20 : decode cX3_keepsLaws 20 = .ok (.iload_n 3, 1) := by decide +kernel
theorem dX3_keepsLaws_21 : decode cX3_keepsLaws 21 = .ok (.iaload, 1) := by decide +kernel
theorem dX3_keepsLaws_22 : decode cX3_keepsLaws 22 = .ok (.invokestatic 86, 3) := by decide +kernel
theorem dX3_keepsLaws_25 : decode cX3_keepsLaws 25 = .ok (.iload_n 2, 1) := by decide +kernel
theorem dX3_keepsLaws_26 : decode cX3_keepsLaws 26 = .ok (.if_icmp .ne 50, 3) := by decide +kernel
theorem dX3_keepsLaws_29 : decode cX3_keepsLaws 29 = .ok (.aload_n 1, 1) := by decide +kernel
theorem dX3_keepsLaws_30 : decode cX3_keepsLaws 30 = .ok (.aload_n 0, 1) := by decide +kernel
theorem dX3_keepsLaws_31 : decode cX3_keepsLaws 31 = .ok (.getfield 55, 3) := by decide +kernel
theorem dX3_keepsLaws_34 : decode cX3_keepsLaws 34 = .ok (.iload_n 3, 1) := by decide +kernel
theorem dX3_keepsLaws_35 : decode cX3_keepsLaws 35 = .ok (.iaload, 1) := by decide +kernel
theorem dX3_keepsLaws_36 : decode cX3_keepsLaws 36 = .ok (.iaload, 1) := by decide +kernel
theorem dX3_keepsLaws_37 : decode cX3_keepsLaws 37 = .ok (.aload_n 1, 1) := by decide +kernel
theorem dX3_keepsLaws_38 : decode cX3_keepsLaws 38 = .ok (.aload_n 0, 1) := by decide +kernel
theorem dX3_keepsLaws_39 : decode cX3_keepsLaws 39 = .ok (.getfield 58, 3) := by decide +kernel
theorem dX3_keepsLaws_42 : decode cX3_keepsLaws 42 = .ok (.iload_n 3, 1) := by decide +kernel
theorem dX3_keepsLaws_43 : decode cX3_keepsLaws 43 = .ok (.iaload, 1) := by decide +kernel
theorem dX3_keepsLaws_44 : decode cX3_keepsLaws 44 = .ok (.iaload, 1) := by decide +kernel
theorem dX3_keepsLaws_45 : decode cX3_keepsLaws 45 = .ok (.if_icmp .ne 7, 3) := by decide +kernel
theorem dX3_keepsLaws_48 : decode cX3_keepsLaws 48 = .ok (.iconst 1, 1) := by decide +kernel
theorem dX3_keepsLaws_49 : decode cX3_keepsLaws 49 = .ok (.goto 4, 3) := by decide +kernel
theorem dX3_keepsLaws_52 : decode cX3_keepsLaws 52 = .ok (.iconst 0, 1) := by decide +kernel
theorem dX3_keepsLaws_53 : decode cX3_keepsLaws 53 = .ok (.istore 4, 2) := by decide +kernel
theorem dX3_keepsLaws_55 : decode cX3_keepsLaws 55 = .ok (.iload 4, 2) := by decide +kernel
theorem dX3_keepsLaws_57 : decode cX3_keepsLaws 57 = .ok (.aload_n 0, 1) := by decide +kernel
theorem dX3_keepsLaws_58 : decode cX3_keepsLaws 58 = .ok (.getfield 61, 3) := by decide +kernel
theorem dX3_keepsLaws_61 : decode cX3_keepsLaws 61 = .ok (.iload_n 3, 1) := by decide +kernel
theorem dX3_keepsLaws_62 : decode cX3_keepsLaws 62 = .ok (.iaload, 1) := by decide +kernel
theorem dX3_keepsLaws_63 : decode cX3_keepsLaws 63 = .ok (.ifCond .ne 7, 3) := by decide +kernel
theorem dX3_keepsLaws_66 : decode cX3_keepsLaws 66 = .ok (.iconst 1, 1) := by decide +kernel
theorem dX3_keepsLaws_67 : decode cX3_keepsLaws 67 = .ok (.goto 4, 3) := by decide +kernel
theorem dX3_keepsLaws_70 : decode cX3_keepsLaws 70 = .ok (.iconst 0, 1) := by decide +kernel
theorem dX3_keepsLaws_71 : decode cX3_keepsLaws 71 = .ok (.if_icmp .ne 5, 3) := by decide +kernel
theorem dX3_keepsLaws_74 : decode cX3_keepsLaws 74 = .ok (.iconst 0, 1) := by decide +kernel
theorem dX3_keepsLaws_75 : decode cX3_keepsLaws 75 = .ok (.ireturn, 1) := by decide +kernel
theorem dX3_keepsLaws_76 : decode cX3_keepsLaws 76 = .ok (.iinc 3 1, 3) := by decide +kernel
theorem dX3_keepsLaws_79 : decode cX3_keepsLaws 79 = .ok (.goto (-77), 3) := by decide +kernel
theorem dX3_keepsLaws_82 : decode cX3_keepsLaws 82 = .ok (.iconst 1, 1) := by decide +kernel
theorem dX3_keepsLaws_83 : decode cX3_keepsLaws 83 = .ok (.ireturn, 1) := by decide +kernel
theorem dX3_liesSoftly_0 : decode cX3_liesSoftly 0 = .ok (.iconst 0, 1) := by decide +kernel
theorem dX3_liesSoftly_1 : decode cX3_liesSoftly 1 = .ok (.istore_n 3, 1) := by decide +kernel
theorem dX3_liesSoftly_2 : decode cX3_liesSoftly 2 = .ok (.iload_n 3, 1) := by decide +kernel
theorem dX3_liesSoftly_3 : decode cX3_liesSoftly 3 = .ok (.iload_n 2, 1) := by decide +kernel
theorem dX3_liesSoftly_4 : decode cX3_liesSoftly 4 = .ok (.if_icmp .ge 38, 3) := by decide +kernel
theorem dX3_liesSoftly_7 : decode cX3_liesSoftly 7 = .ok (.aload_n 1, 1) := by decide +kernel
theorem dX3_liesSoftly_8 : decode cX3_liesSoftly 8 = .ok (.iload_n 3, 1) := by decide +kernel
theorem dX3_liesSoftly_9 : decode cX3_liesSoftly 9 = .ok (.iaload, 1) := by decide +kernel
theorem dX3_liesSoftly_10 : decode cX3_liesSoftly 10 = .ok (.aload_n 1, 1) := by decide +kernel
theorem dX3_liesSoftly_11 : decode cX3_liesSoftly 11 = .ok (.iload_n 2, 1) := by decide +kernel
theorem dX3_liesSoftly_12 : decode cX3_liesSoftly 12 = .ok (.iaload, 1) := by decide +kernel
theorem dX3_liesSoftly_13 : decode cX3_liesSoftly 13 = .ok (.if_icmp .ne 23, 3) := by decide +kernel
theorem dX3_liesSoftly_16 : decode cX3_liesSoftly 16 = .ok (.aload_n 0, 1) := by decide +kernel
theorem dX3_liesSoftly_17 : decode cX3_liesSoftly 17 = .ok (.iload_n 3, 1) := by decide +kernel
theorem dX3_liesSoftly_18 : decode cX3_liesSoftly 18 = .ok (.iload_n 2, 1) := by decide +kernel
theorem dX3_liesSoftly_19 : decode cX3_liesSoftly 19 = .ok (.invokevirtual 126, 3) := by decide +kernel
theorem dX3_liesSoftly_22 : decode cX3_liesSoftly 22 = .ok (.ifCond .ne 12, 3) := by decide +kernel
theorem dX3_liesSoftly_25 : decode cX3_liesSoftly 25 = .ok (.aload_n 0, 1) := by decide +kernel
theorem dX3_liesSoftly_26 : decode cX3_liesSoftly 26 = .ok (.iload_n 2, 1) := by decide +kernel
theorem dX3_liesSoftly_27 : decode cX3_liesSoftly 27 = .ok (.iload_n 3, 1) := by decide +kernel
theorem dX3_liesSoftly_28 : decode cX3_liesSoftly 28 = .ok (.invokevirtual 126, 3) := by decide +kernel
theorem dX3_liesSoftly_31 : decode cX3_liesSoftly 31 = .ok (.ifCond .eq 5, 3) := by decide +kernel
theorem dX3_liesSoftly_34 : decode cX3_liesSoftly 34 = .ok (.iconst 0, 1) := by decide +kernel
theorem dX3_liesSoftly_35 : decode cX3_liesSoftly 35 = .ok (.ireturn, 1) := by decide +kernel
theorem dX3_liesSoftly_36 : decode cX3_liesSoftly 36 = .ok (.iinc 3 1, 3) := by decide +kernel
theorem dX3_liesSoftly_39 : decode cX3_liesSoftly 39 = .ok (.goto (-37), 3) := by decide +kernel
theorem dX3_liesSoftly_42 : decode cX3_liesSoftly 42 = .ok (.iconst 1, 1) := by decide +kernel
theorem dX3_liesSoftly_43 : decode cX3_liesSoftly 43 = .ok (.ireturn, 1) := by decide +kernel
theorem dX3_crushes_0 : decode cX3_crushes 0 = .ok (.aload_n 0, 1) := by decide +kernel
theorem dX3_crushes_1 : decode cX3_crushes 1 = .ok (.getfield 18, 3) := by decide +kernel
theorem dX3_crushes_4 : decode cX3_crushes 4 = .ok (.iload_n 2, 1) := by decide +kernel
theorem dX3_crushes_5 : decode cX3_crushes 5 = .ok (.iaload, 1) := by decide +kernel
theorem dX3_crushes_6 : decode cX3_crushes 6 = .ok (.iconst 2, 1) := by decide +kernel
theorem dX3_crushes_7 : decode cX3_crushes 7 = .ok (.if_icmp .ne 22, 3) := by decide +kernel
theorem dX3_crushes_10 : decode cX3_crushes 10 = .ok (.aload_n 0, 1) := by decide +kernel
theorem dX3_crushes_11 : decode cX3_crushes 11 = .ok (.getfield 22, 3) := by decide +kernel
theorem dX3_crushes_14 : decode cX3_crushes 14 = .ok (.iload_n 1, 1) := by decide +kernel
theorem dX3_crushes_15 : decode cX3_crushes 15 = .ok (.iaload, 1) := by decide +kernel
theorem dX3_crushes_16 : decode cX3_crushes 16 = .ok (.aload_n 0, 1) := by decide +kernel
theorem dX3_crushes_17 : decode cX3_crushes 17 = .ok (.getfield 22, 3) := by decide +kernel
theorem dX3_crushes_20 : decode cX3_crushes 20 = .ok (.iload_n 2, 1) := by decide +kernel
theorem dX3_crushes_21 : decode cX3_crushes 21 = .ok (.iaload, 1) := by decide +kernel
theorem dX3_crushes_22 : decode cX3_crushes 22 = .ok (.if_icmp .le 7, 3) := by decide +kernel
theorem dX3_crushes_25 : decode cX3_crushes 25 = .ok (.iconst 1, 1) := by decide +kernel
theorem dX3_crushes_26 : decode cX3_crushes 26 = .ok (.goto 4, 3) := by decide +kernel
theorem dX3_crushes_29 : decode cX3_crushes 29 = .ok (.iconst 0, 1) := by decide +kernel
theorem dX3_crushes_30 : decode cX3_crushes 30 = .ok (.ireturn, 1) := by decide +kernel
theorem dX3_evenestSplit_0 : decode cX3_evenestSplit 0 = .ok (.iconst 0, 1) := by decide +kernel
theorem dX3_evenestSplit_1 : decode cX3_evenestSplit 1 = .ok (.istore_n 2, 1) := by decide +kernel
theorem dX3_evenestSplit_2 : decode cX3_evenestSplit 2 = .ok (.aload_n 0, 1) := by decide +kernel
theorem dX3_evenestSplit_3 : decode cX3_evenestSplit 3 = .ok (.iconst 0, 1) := by decide +kernel
theorem dX3_evenestSplit_4 : decode cX3_evenestSplit 4 = .ok (.iload_n 1, 1) := by decide +kernel
theorem dX3_evenestSplit_5 : decode cX3_evenestSplit 5 = .ok (.invokevirtual 130, 3) := by decide +kernel
theorem dX3_evenestSplit_8 : decode cX3_evenestSplit 8 = .ok (.invokestatic 109, 3) := by decide +kernel
theorem dX3_evenestSplit_11 : decode cX3_evenestSplit 11 = .ok (.istore_n 3, 1) := by decide +kernel
theorem dX3_evenestSplit_12 : decode cX3_evenestSplit 12 = .ok (.iconst 1, 1) := by decide +kernel
theorem dX3_evenestSplit_13 : decode cX3_evenestSplit 13 = .ok (.istore 4, 2) := by decide +kernel
theorem dX3_evenestSplit_15 : decode cX3_evenestSplit 15 = .ok (.iload 4, 2) := by decide +kernel
theorem dX3_evenestSplit_17 : decode cX3_evenestSplit 17 = .ok (.iconst 1, 1) := by decide +kernel
theorem dX3_evenestSplit_18 : decode cX3_evenestSplit 18 = .ok (.aload_n 0, 1) := by decide +kernel
theorem dX3_evenestSplit_19 : decode cX3_evenestSplit 19 = .ok (.getfield 15, 3) := by decide +kernel
theorem dX3_evenestSplit_22 : decode cX3_evenestSplit 22 = .ok (.ishl, 1) := by decide +kernel
theorem dX3_evenestSplit_23 : decode cX3_evenestSplit 23 = .ok (.if_icmp .ge 37, 3) := by decide +kernel
theorem dX3_evenestSplit_26 : decode cX3_evenestSplit 26 = .ok (.iload_n 3, 1) := by decide +kernel
theorem dX3_evenestSplit_27 : decode cX3_evenestSplit 27 = .ok (.ifCond .le 33, 3) := by decide +kernel
theorem dX3_evenestSplit_30 : decode cX3_evenestSplit 30 = .ok (.aload_n 0, 1) := by decide +kernel
theorem dX3_evenestSplit_31 : decode cX3_evenestSplit 31 = .ok (.iload 4, 2) := by decide +kernel
theorem dX3_evenestSplit_33 : decode cX3_evenestSplit 33 = .ok (.iload_n 1, 1) := by decide +kernel
theorem dX3_evenestSplit_34 : decode cX3_evenestSplit 34 = .ok (.invokevirtual 130, 3) := by decide +kernel
theorem dX3_evenestSplit_37 : decode cX3_evenestSplit 37 = .ok (.invokestatic 109, 3) := by decide +kernel
theorem dX3_evenestSplit_40 : decode cX3_evenestSplit 40 = .ok (.istore 5, 2) := by decide +kernel
theorem dX3_evenestSplit_42 : decode cX3_evenestSplit 42 = .ok (.iload 5, 2) := by decide +kernel
theorem dX3_evenestSplit_44 : decode cX3_evenestSplit 44 = .ok (.iload_n 3, 1) := by decide +kernel
theorem dX3_evenestSplit_45 : decode cX3_evenestSplit 45 = .ok (.if_icmp .ge 9, 3) := by decide +kernel
theorem dX3_evenestSplit_48 : decode cX3_evenestSplit 48 = .ok (.iload 4, 2) := by decide +kernel
theorem dX3_evenestSplit_50 : decode cX3_evenestSplit 50 = .ok (.istore_n 2, 1) := by decide +kernel
theorem dX3_evenestSplit_51 : decode cX3_evenestSplit 51 = .ok (.iload 5, 2) := by decide +kernel
theorem dX3_evenestSplit_53 : decode cX3_evenestSplit 53 = .ok (.istore_n 3, 1) := by decide +kernel
theorem dX3_evenestSplit_54 : decode cX3_evenestSplit 54 = .ok (.iinc 4 1, 3) := by decide +kernel
theorem dX3_evenestSplit_57 : decode cX3_evenestSplit 57 = .ok (.goto (-42), 3) := by decide +kernel
theorem dX3_evenestSplit_60 : decode cX3_evenestSplit 60 = .ok (.iload_n 2, 1) := by decide +kernel
theorem dX3_evenestSplit_61 : decode cX3_evenestSplit 61 = .ok (.ireturn, 1) := by decide +kernel
theorem dX3_splitOff_0 : decode cX3_splitOff 0 = .ok (.iconst 0, 1) := by decide +kernel
theorem dX3_splitOff_1 : decode cX3_splitOff 1 = .ok (.istore_n 3, 1) := by decide +kernel
theorem dX3_splitOff_2 : decode cX3_splitOff 2 = .ok (.iconst 0, 1) := by decide +kernel
theorem dX3_splitOff_3 : decode cX3_splitOff 3 = .ok (.istore 4, 2) := by decide +kernel
theorem dX3_splitOff_5 : decode cX3_splitOff 5 = .ok (.iconst 0, 1) := by decide +kernel
theorem dX3_splitOff_6 : decode cX3_splitOff 6 = .ok (.istore 5, 2) := by decide +kernel
theorem dX3_splitOff_8 : decode cX3_splitOff 8 = .ok (.iload 5, 2) := by decide +kernel
theorem dX3_splitOff_10 : decode cX3_splitOff 10 = .ok (.aload_n 0, 1) := by decide +kernel
theorem dX3_splitOff_11 : decode cX3_splitOff 11 = .ok (.getfield 15, 3) := by decide +kernel
theorem dX3_splitOff_14 : decode cX3_splitOff 14 = .ok (.if_icmp .ge 44, 3) := by decide +kernel
theorem dX3_splitOff_17 : decode cX3_splitOff 17 = .ok (.aload_n 0, 1) := by decide +kernel
theorem dX3_splitOff_18 : decode cX3_splitOff 18 = .ok (.iload_n 1, 1) := by decide +kernel
theorem dX3_splitOff_19 : decode cX3_splitOff 19 = .ok (.iload 5, 2) := by decide +kernel
theorem dX3_splitOff_21 : decode cX3_splitOff 21 = .ok (.invokevirtual 133, 3) := by decide +kernel
theorem dX3_splitOff_24 : decode cX3_splitOff 24 = .ok (.ifCond .eq 18, 3) := by decide +kernel
theorem dX3_splitOff_27 : decode cX3_splitOff 27 = .ok (.iload 4, 2) := by decide +kernel
theorem dX3_splitOff_29 : decode cX3_splitOff 29 = .ok (.aload_n 0, 1) := by decide +kernel
theorem dX3_splitOff_30 : decode cX3_splitOff 30 = .ok (.iload 5, 2) := by decide +kernel
theorem dX3_splitOff_32 : decode cX3_splitOff 32 = .ok (.iload_n 2, 1) := by decide +kernel
theorem dX3_splitOff_33 : decode cX3_splitOff 33 = .ok (.invokevirtual 92, 3) := by decide +kernel
theorem dX3_splitOff_36 : decode cX3_splitOff 36 = .ok (.iadd, 1) := by decide +kernel
theorem dX3_splitOff_37 : decode cX3_splitOff 37 = .ok (.istore 4, 2) := by decide +kernel
theorem dX3_splitOff_39 : decode cX3_splitOff 39 = .ok (.goto 13, 3) := by decide +kernel
theorem dX3_splitOff_42 : decode cX3_splitOff 42 = .ok (.iload_n 3, 1) := by decide +kernel
theorem dX3_splitOff_43 : decode cX3_splitOff 43 = .ok (.aload_n 0, 1) := by decide +kernel
theorem dX3_splitOff_44 : decode cX3_splitOff 44 = .ok (.iload 5, 2) := by decide +kernel
theorem dX3_splitOff_46 : decode cX3_splitOff 46 = .ok (.iload_n 2, 1) := by decide +kernel
theorem dX3_splitOff_47 : decode cX3_splitOff 47 = .ok (.invokevirtual 92, 3) := by decide +kernel
theorem dX3_splitOff_50 : decode cX3_splitOff 50 = .ok (.iadd, 1) := by decide +kernel
theorem dX3_splitOff_51 : decode cX3_splitOff 51 = .ok (.istore_n 3, 1) := by decide +kernel
theorem dX3_splitOff_52 : decode cX3_splitOff 52 = .ok (.iinc 5 1, 3) := by decide +kernel
theorem dX3_splitOff_55 : decode cX3_splitOff 55 = .ok (.goto (-47), 3) := by decide +kernel
theorem dX3_splitOff_58 : decode cX3_splitOff 58 = .ok (.aload_n 0, 1) := by decide +kernel
theorem dX3_splitOff_59 : decode cX3_splitOff 59 = .ok (.iload_n 3, 1) := by decide +kernel
theorem dX3_splitOff_60 : decode cX3_splitOff 60 = .ok (.iload 4, 2) := by decide +kernel
theorem dX3_splitOff_62 : decode cX3_splitOff 62 = .ok (.invokevirtual 102, 3) := by decide +kernel
theorem dX3_splitOff_65 : decode cX3_splitOff 65 = .ok (.ireturn, 1) := by decide +kernel
theorem dX3_isInRight_0 : decode cX3_isInRight 0 = .ok (.iload_n 1, 1) := by decide +kernel
theorem dX3_isInRight_1 : decode cX3_isInRight 1 = .ok (.aload_n 0, 1) := by decide +kernel
theorem dX3_isInRight_2 : decode cX3_isInRight 2 = .ok (.getfield 15, 3) := by decide +kernel
theorem dX3_isInRight_5 : decode cX3_isInRight 5 = .ok (.iconst 1, 1) := by decide +kernel
theorem dX3_isInRight_6 : decode cX3_isInRight 6 = .ok (.isub, 1) := by decide +kernel
theorem dX3_isInRight_7 : decode cX3_isInRight 7 = .ok (.iload_n 2, 1) := by decide +kernel
theorem dX3_isInRight_8 : decode cX3_isInRight 8 = .ok (.isub, 1) := by decide +kernel
theorem dX3_isInRight_9 : decode cX3_isInRight 9 = .ok (.ishr, 1) := by decide +kernel
theorem dX3_isInRight_10 : decode cX3_isInRight 10 = .ok (.iconst 1, 1) := by decide +kernel
theorem dX3_isInRight_11 : decode cX3_isInRight 11 = .ok (.iand, 1) := by decide +kernel
theorem dX3_isInRight_12 : decode cX3_isInRight 12 = .ok (.iconst 1, 1) := by decide +kernel
theorem dX3_isInRight_13 : decode cX3_isInRight 13 = .ok (.if_icmp .ne 7, 3) := by decide +kernel
theorem dX3_isInRight_16 : decode cX3_isInRight 16 = .ok (.iconst 1, 1) := by decide +kernel
theorem dX3_isInRight_17 : decode cX3_isInRight 17 = .ok (.goto 4, 3) := by decide +kernel
theorem dX3_isInRight_20 : decode cX3_isInRight 20 = .ok (.iconst 0, 1) := by decide +kernel
theorem dX3_isInRight_21 : decode cX3_isInRight 21 = .ok (.ireturn, 1) := by decide +kernel
theorem dX3_hangs_0 : decode cX3_hangs 0 = .ok (.iconst 0, 1) := by decide +kernel
theorem dX3_hangs_1 : decode cX3_hangs 1 = .ok (.istore_n 2, 1) := by decide +kernel
theorem dX3_hangs_2 : decode cX3_hangs 2 = .ok (.iload_n 2, 1) := by decide +kernel
theorem dX3_hangs_3 : decode cX3_hangs 3 = .ok (.aload_n 0, 1) := by decide +kernel
theorem dX3_hangs_4 : decode cX3_hangs 4 = .ok (.getfield 64, 3) := by decide +kernel
theorem dX3_hangs_7 : decode cX3_hangs 7 = .ok (.if_icmp .ge 31, 3) := by decide +kernel
theorem dX3_hangs_10 : decode cX3_hangs 10 = .ok (.aload_n 0, 1) := by decide +kernel
theorem dX3_hangs_11 : decode cX3_hangs 11 = .ok (.getfield 67, 3) := by decide +kernel
theorem dX3_hangs_14 : decode cX3_hangs 14 = .ok (.iload_n 2, 1) := by decide +kernel
theorem dX3_hangs_15 : decode cX3_hangs 15 = .ok (.iaload, 1) := by decide +kernel
theorem dX3_hangs_16 : decode cX3_hangs 16 = .ok (.iload_n 1, 1) := by decide +kernel
theorem dX3_hangs_17 : decode cX3_hangs 17 = .ok (.if_icmp .eq 13, 3) := by decide +kernel
theorem dX3_hangs_20 : decode cX3_hangs 20 = .ok (.aload_n 0, 1) := by decide +kernel
theorem dX3_hangs_21 : decode cX3_hangs 21 = .ok (.getfield 70, 3) := by decide +kernel
theorem dX3_hangs_24 : decode cX3_hangs 24 = .ok (.iload_n 2, 1) := by decide +kernel
theorem dX3_hangs_25 : decode cX3_hangs 25 = .ok (.iaload, 1) := by decide +kernel
theorem dX3_hangs_26 : decode cX3_hangs 26 = .ok (.iload_n 1, 1) := by decide +kernel
theorem dX3_hangs_27 : decode cX3_hangs 27 = .ok (.if_icmp .ne 5, 3) := by decide +kernel
theorem dX3_hangs_30 : decode cX3_hangs 30 = .ok (.iconst 1, 1) := by decide +kernel
theorem dX3_hangs_31 : decode cX3_hangs 31 = .ok (.ireturn, 1) := by decide +kernel
theorem dX3_hangs_32 : decode cX3_hangs 32 = .ok (.iinc 2 1, 3) := by decide +kernel
theorem dX3_hangs_35 : decode cX3_hangs 35 = .ok (.goto (-33), 3) := by decide +kernel
theorem dX3_hangs_38 : decode cX3_hangs 38 = .ok (.iconst 0, 1) := by decide +kernel
theorem dX3_hangs_39 : decode cX3_hangs 39 = .ok (.ireturn, 1) := by decide +kernel
theorem dX3_endWeight_0 : decode cX3_endWeight 0 = .ok (.iconst 1, 1) := by decide +kernel
theorem dX3_endWeight_1 : decode cX3_endWeight 1 = .ok (.iload_n 1, 1) := by decide +kernel
theorem dX3_endWeight_2 : decode cX3_endWeight 2 = .ok (.ishl, 1) := by decide +kernel
theorem dX3_endWeight_3 : decode cX3_endWeight 3 = .ok (.istore_n 2, 1) := by decide +kernel
theorem dX3_endWeight_4 : decode cX3_endWeight 4 = .ok (.aload_n 0, 1) := by decide +kernel
theorem dX3_endWeight_5 : decode cX3_endWeight 5 = .ok (.getfield 64, 3) := by decide +kernel
theorem dX3_endWeight_8 : decode cX3_endWeight 8 = .ok (.iconst 1, 1) := by decide +kernel
theorem dX3_endWeight_9 : decode cX3_endWeight 9 = .ok (.isub, 1) := by decide +kernel
theorem dX3_endWeight_10 : decode cX3_endWeight 10 = .ok (.istore_n 3, 1) := by decide +kernel
theorem dX3_endWeight_11 : decode cX3_endWeight 11 = .ok (.iload_n 3, 1) := by decide +kernel
theorem dX3_endWeight_12 : decode cX3_endWeight 12 = .ok (.ifCond .lt 41, 3) := by decide +kernel
theorem dX3_endWeight_15 : decode cX3_endWeight 15 = .ok (.iload_n 2, 1) := by decide +kernel
theorem dX3_endWeight_16 : decode cX3_endWeight 16 = .ok (.bipush 10, 2) := by decide +kernel
theorem dX3_endWeight_18 : decode cX3_endWeight 18 = .ok (.iload_n 3, 1) := by decide +kernel
theorem dX3_endWeight_19 : decode cX3_endWeight 19 = .ok (.iadd, 1) := by decide +kernel
theorem dX3_endWeight_20 : decode cX3_endWeight 20 = .ok (.ishr, 1) := by decide +kernel
theorem dX3_endWeight_21 : decode cX3_endWeight 21 = .ok (.iconst 1, 1) := by decide +kernel
theorem dX3_endWeight_22 : decode cX3_endWeight 22 = .ok (.iand, 1) := by decide +kernel
theorem dX3_endWeight_23 : decode cX3_endWeight 23 = .ok (.iconst 1, 1) := by decide +kernel
theorem dX3_endWeight_24 : decode cX3_endWeight 24 = .ok (.if_icmp .ne 23, 3) := by decide +kernel
theorem dX3_endWeight_27 : decode cX3_endWeight 27 = .ok (.iload_n 2, 1) := by decide +kernel
theorem dX3_endWeight_28 : decode cX3_endWeight 28 = .ok (.iconst 1, 1) := by decide +kernel
theorem dX3_endWeight_29 : decode cX3_endWeight 29 = .ok (.aload_n 0, 1) := by decide +kernel
theorem dX3_endWeight_30 : decode cX3_endWeight 30 = .ok (.getfield 67, 3) := by decide +kernel
theorem dX3_endWeight_33 : decode cX3_endWeight 33 = .ok (.iload_n 3, 1) := by decide +kernel
theorem dX3_endWeight_34 : decode cX3_endWeight 34 = .ok (.iaload, 1) := by decide +kernel
theorem dX3_endWeight_35 : decode cX3_endWeight 35 = .ok (.ishl, 1) := by decide +kernel
theorem dX3_endWeight_36 : decode cX3_endWeight 36 = .ok (.iconst 1, 1) := by decide +kernel
theorem dX3_endWeight_37 : decode cX3_endWeight 37 = .ok (.aload_n 0, 1) := by decide +kernel
theorem dX3_endWeight_38 : decode cX3_endWeight 38 = .ok (.getfield 70, 3) := by decide +kernel
theorem dX3_endWeight_41 : decode cX3_endWeight 41 = .ok (.iload_n 3, 1) := by decide +kernel
theorem dX3_endWeight_42 : decode cX3_endWeight 42 = .ok (.iaload, 1) := by decide +kernel
theorem dX3_endWeight_43 : decode cX3_endWeight 43 = .ok (.ishl, 1) := by decide +kernel
theorem dX3_endWeight_44 : decode cX3_endWeight 44 = .ok (.ior, 1) := by decide +kernel
theorem dX3_endWeight_45 : decode cX3_endWeight 45 = .ok (.ior, 1) := by decide +kernel
theorem dX3_endWeight_46 : decode cX3_endWeight 46 = .ok (.istore_n 2, 1) := by decide +kernel
theorem dX3_endWeight_47 : decode cX3_endWeight 47 = .ok (.iinc 3 (-1), 3) := by decide +kernel
theorem dX3_endWeight_50 : decode cX3_endWeight 50 = .ok (.goto (-39), 3) := by decide +kernel
theorem dX3_endWeight_53 : decode cX3_endWeight 53 = .ok (.aload_n 0, 1) := by decide +kernel
theorem dX3_endWeight_54 : decode cX3_endWeight 54 = .ok (.iload_n 2, 1) := by decide +kernel
theorem dX3_endWeight_55 : decode cX3_endWeight 55 = .ok (.invokevirtual 136, 3) := by decide +kernel
theorem dX3_endWeight_58 : decode cX3_endWeight 58 = .ok (.ireturn, 1) := by decide +kernel
theorem dX3_weightOf_0 : decode cX3_weightOf 0 = .ok (.iconst 0, 1) := by decide +kernel
theorem dX3_weightOf_1 : decode cX3_weightOf 1 = .ok (.istore_n 2, 1) := by decide +kernel
theorem dX3_weightOf_2 : decode cX3_weightOf 2 = .ok (.iconst 0, 1) := by decide +kernel
theorem dX3_weightOf_3 : decode cX3_weightOf 3 = .ok (.istore_n 3, 1) := by decide +kernel
theorem dX3_weightOf_4 : decode cX3_weightOf 4 = .ok (.iload_n 3, 1) := by decide +kernel
theorem dX3_weightOf_5 : decode cX3_weightOf 5 = .ok (.aload_n 0, 1) := by decide +kernel
theorem dX3_weightOf_6 : decode cX3_weightOf 6 = .ok (.getfield 15, 3) := by decide +kernel
theorem dX3_weightOf_9 : decode cX3_weightOf 9 = .ok (.if_icmp .ge 31, 3) := by decide +kernel
theorem dX3_weightOf_12 : decode cX3_weightOf 12 = .ok (.iload_n 2, 1) := by decide +kernel
theorem dX3_weightOf_13 : decode cX3_weightOf 13 = .ok (.iload_n 1, 1) := by decide +kernel
theorem dX3_weightOf_14 : decode cX3_weightOf 14 = .ok (.iload_n 3, 1) := by decide +kernel
theorem dX3_weightOf_15 : decode cX3_weightOf 15 = .ok (.ishr, 1) := by decide +kernel
theorem dX3_weightOf_16 : decode cX3_weightOf 16 = .ok (.iconst 1, 1) := by decide +kernel
theorem dX3_weightOf_17 : decode cX3_weightOf 17 = .ok (.iand, 1) := by decide +kernel
theorem dX3_weightOf_18 : decode cX3_weightOf 18 = .ok (.iconst 1, 1) := by decide +kernel
theorem dX3_weightOf_19 : decode cX3_weightOf 19 = .ok (.if_icmp .ne 12, 3) := by decide +kernel
theorem dX3_weightOf_22 : decode cX3_weightOf 22 = .ok (.aload_n 0, 1) := by decide +kernel
theorem dX3_weightOf_23 : decode cX3_weightOf 23 = .ok (.getfield 22, 3) := by decide +kernel
theorem dX3_weightOf_26 : decode cX3_weightOf 26 = .ok (.iload_n 3, 1) := by decide +kernel
theorem dX3_weightOf_27 : decode cX3_weightOf 27 = .ok (.iaload, 1) := by decide +kernel
theorem dX3_weightOf_28 : decode cX3_weightOf 28 = .ok (.goto 4, 3) := by decide +kernel
theorem dX3_weightOf_31 : decode cX3_weightOf 31 = .ok (.iconst 0, 1) := by decide +kernel
theorem dX3_weightOf_32 : decode cX3_weightOf 32 = .ok (.iadd, 1) := by decide +kernel
theorem dX3_weightOf_33 : decode cX3_weightOf 33 = .ok (.istore_n 2, 1) := by decide +kernel
theorem dX3_weightOf_34 : decode cX3_weightOf 34 = .ok (.iinc 3 1, 3) := by decide +kernel
theorem dX3_weightOf_37 : decode cX3_weightOf 37 = .ok (.goto (-33), 3) := by decide +kernel
theorem dX3_weightOf_40 : decode cX3_weightOf 40 = .ok (.iload_n 2, 1) := by decide +kernel
theorem dX3_weightOf_41 : decode cX3_weightOf 41 = .ok (.ireturn, 1) := by decide +kernel
theorem dX4_init_0 : decode cX4_init 0 = .ok (.aload_n 0, 1) := by decide +kernel
theorem dX4_init_1 : decode cX4_init 1 = .ok (.aload_n 1, 1) := by decide +kernel
theorem dX4_init_2 : decode cX4_init 2 = .ok (.invokespecial 1, 3) := by decide +kernel
theorem dX4_init_5 : decode cX4_init 5 = .ok (.aload_n 0, 1) := by decide +kernel
theorem dX4_init_6 : decode cX4_init 6 = .ok (.iconst 0, 1) := by decide +kernel
theorem dX4_init_7 : decode cX4_init 7 = .ok (.putfield 7, 3) := by decide +kernel
theorem dX4_init_10 : decode cX4_init 10 = .ok (.aload_n 0, 1) := by decide +kernel
theorem dX4_init_11 : decode cX4_init 11 = .ok (.iconst 0, 1) := by decide +kernel
theorem dX4_init_12 : decode cX4_init 12 = .ok (.putfield 13, 3) := by decide +kernel
theorem dX4_init_15 : decode cX4_init 15 = .ok (.aload_n 0, 1) := by decide +kernel
theorem dX4_init_16 : decode cX4_init 16 = .ok (.iconst 0, 1) := by decide +kernel
theorem dX4_init_17 : decode cX4_init 17 = .ok (.putfield 17, 3) := by decide +kernel
theorem dX4_init_20 : decode cX4_init 20 = .ok (.aload_n 0, 1) := by decide +kernel
theorem dX4_init_21 : decode cX4_init 21 = .ok (.iconst 0, 1) := by decide +kernel
theorem dX4_init_22 : decode cX4_init 22 = .ok (.putfield 20, 3) := by decide +kernel
theorem dX4_init_25 : decode cX4_init 25 = .ok (.aload_n 0, 1) := by decide +kernel
theorem dX4_init_26 : decode cX4_init 26 = .ok (.iconst 0, 1) := by decide +kernel
theorem dX4_init_27 : decode cX4_init 27 = .ok (.putfield 23, 3) := by decide +kernel
theorem dX4_init_30 : decode cX4_init 30 = .ok (.return_, 1) := by decide +kernel
theorem dX4_ask_0 : decode cX4_ask 0 = .ok (.aload_n 0, 1) := by decide +kernel
theorem dX4_ask_1 : decode cX4_ask 1 = .ok (.getfield 17, 3) := by decide +kernel
theorem dX4_ask_4 : decode cX4_ask 4 = .ok (.iload_n 1, 1) := by decide +kernel
theorem dX4_ask_5 : decode cX4_ask 5 = .ok (.if_icmp .ne 11, 3) := by decide +kernel
theorem dX4_ask_8 : decode cX4_ask 8 = .ok (.aload_n 0, 1) := by decide +kernel
theorem dX4_ask_9 : decode cX4_ask 9 = .ok (.getfield 20, 3) := by decide +kernel
theorem dX4_ask_12 : decode cX4_ask 12 = .ok (.iload_n 2, 1) := by decide +kernel
theorem dX4_ask_13 : decode cX4_ask 13 = .ok (.if_icmp .eq 7, 3) := by decide +kernel
theorem dX4_ask_16 : decode cX4_ask 16 = .ok (.aload_n 0, 1) := by decide +kernel
theorem dX4_ask_17 : decode cX4_ask 17 = .ok (.invokevirtual 26, 3) := by decide +kernel
theorem dX4_ask_20 : decode cX4_ask 20 = .ok (.aload_n 0, 1) := by decide +kernel
theorem dX4_ask_21 : decode cX4_ask 21 = .ok (.iload_n 1, 1) := by decide +kernel
theorem dX4_ask_22 : decode cX4_ask 22 = .ok (.putfield 17, 3) := by decide +kernel
theorem dX4_ask_25 : decode cX4_ask 25 = .ok (.aload_n 0, 1) := by decide +kernel
theorem dX4_ask_26 : decode cX4_ask 26 = .ok (.iload_n 2, 1) := by decide +kernel
theorem dX4_ask_27 : decode cX4_ask 27 = .ok (.putfield 20, 3) := by decide +kernel
theorem dX4_ask_30 : decode cX4_ask 30 = .ok (.return_, 1) := by decide +kernel
theorem dX4_begin_0 : decode cX4_begin 0 = .ok (.aload_n 0, 1) := by decide +kernel
theorem dX4_begin_1 : decode cX4_begin 1 = .ok (.iconst 0, 1) := by decide +kernel
theorem dX4_begin_2 : decode cX4_begin 2 = .ok (.putfield 7, 3) := by decide +kernel
theorem dX4_begin_5 : decode cX4_begin 5 = .ok (.return_, 1) := by decide +kernel
theorem dX4_isHopeless_0 : decode cX4_isHopeless 0 = .ok (.aload_n 0, 1) := by decide +kernel
theorem dX4_isHopeless_1 : decode cX4_isHopeless 1 = .ok (.iconst 0, 1) := by decide +kernel
theorem dX4_isHopeless_2 : decode cX4_isHopeless 2 = .ok (.putfield 23, 3) := by decide +kernel
theorem dX4_isHopeless_5 : decode cX4_isHopeless 5 = .ok (.iconst 0, 1) := by decide +kernel
theorem dX4_isHopeless_6 : decode cX4_isHopeless 6 = .ok (.istore_n 2, 1) := by decide +kernel
theorem dX4_isHopeless_7 : decode cX4_isHopeless 7 = .ok (.iload_n 2, 1) := by decide +kernel
theorem dX4_isHopeless_8 : decode cX4_isHopeless 8 = .ok (.iload_n 1, 1) := by decide +kernel
theorem dX4_isHopeless_9 : decode cX4_isHopeless 9 = .ok (.if_icmp .ge 41, 3) := by decide +kernel
theorem dX4_isHopeless_12 : decode cX4_isHopeless 12 = .ok (.aload_n 0, 1) := by decide +kernel
theorem dX4_isHopeless_13 : decode cX4_isHopeless 13 = .ok (.dup, 1) := by decide +kernel
theorem dX4_isHopeless_14 : decode cX4_isHopeless 14 = .ok (.getfield 23, 3) := by decide +kernel
theorem dX4_isHopeless_17 : decode cX4_isHopeless 17 = .ok (.aload_n 0, 1) := by decide +kernel
theorem dX4_isHopeless_18 : decode cX4_isHopeless 18 = .ok (.getfield 30, 3) := by decide +kernel
theorem dX4_isHopeless_21 : decode cX4_isHopeless 21 = .ok (.iload_n 2, 1) := by decide +kernel
theorem dX4_isHopeless_22 : decode cX4_isHopeless 22 = .ok (.iaload, 1) := by decide +kernel
theorem dX4_isHopeless_23 : decode cX4_isHopeless 23 = .ok (.aload_n 0, 1) := by decide +kernel
theorem dX4_isHopeless_24 : decode cX4_isHopeless 24 = .ok (.getfield 34, 3) := by decide +kernel
theorem dX4_isHopeless_27 : decode cX4_isHopeless 27 = .ok (.getfield 38, 3) := by decide +kernel
theorem dX4_isHopeless_30 : decode cX4_isHopeless 30 = .ok (.iload_n 2, 1) := by decide +kernel
theorem dX4_isHopeless_31 : decode cX4_isHopeless 31 = .ok (.iaload, 1) := by decide +kernel
theorem dX4_isHopeless_32 : decode cX4_isHopeless 32 = .ok (.if_icmp .ne 7, 3) := by decide +kernel
theorem dX4_isHopeless_35 : decode cX4_isHopeless 35 = .ok (.iconst 0, 1) := by decide +kernel
theorem dX4_isHopeless_36 : decode cX4_isHopeless 36 = .ok (.goto 4, 3) := by decide +kernel
theorem dX4_isHopeless_39 : decode cX4_isHopeless 39 = .ok (.iconst 1, 1) := by decide +kernel
theorem dX4_isHopeless_40 : decode cX4_isHopeless 40 = .ok (.iadd, 1) := by decide +kernel
theorem dX4_isHopeless_41 : decode cX4_isHopeless 41 = .ok (.putfield 23, 3) := by decide +kernel
theorem dX4_isHopeless_44 : decode cX4_isHopeless 44 = .ok (.iinc 2 1, 3) := by decide +kernel
theorem dX4_isHopeless_47 : decode cX4_isHopeless 47 = .ok (.goto (-40), 3) := by decide +kernel
theorem dX4_isHopeless_50 : decode cX4_isHopeless 50 = .ok (.aload_n 0, 1) := by decide +kernel
theorem dX4_isHopeless_51 : decode cX4_isHopeless 51 = .ok (.getfield 7, 3) := by decide +kernel
theorem dX4_isHopeless_54 : decode cX4_isHopeless 54 = .ok (.ifCond .eq 16, 3) := by decide +kernel
theorem dX4_isHopeless_57 : decode cX4_isHopeless 57 = .ok (.aload_n 0, 1) := by decide +kernel
theorem dX4_isHopeless_58 : decode cX4_isHopeless 58 = .ok (.getfield 23, 3) := by decide +kernel
theorem dX4_isHopeless_61 : decode cX4_isHopeless 61 = .ok (.aload_n 0, 1) := by decide +kernel
theorem dX4_isHopeless_62 : decode cX4_isHopeless 62 = .ok (.getfield 13, 3) := by decide +kernel
theorem dX4_isHopeless_65 : decode cX4_isHopeless 65 = .ok (.if_icmp .lt 5, 3) := by decide +kernel
theorem dX4_isHopeless_68 : decode cX4_isHopeless 68 = .ok (.iconst 1, 1) := by decide +kernel
theorem dX4_isHopeless_69 : decode cX4_isHopeless 69 = .ok (.ireturn, 1) := by decide +kernel
theorem dX4_isHopeless_70 : decode cX4_isHopeless 70 = .ok (.aload_n 0, 1) := by decide +kernel
theorem dX4_isHopeless_71 : decode cX4_isHopeless 71 = .ok (.getfield 17, 3) := by decide +kernel
theorem dX4_isHopeless_74 : decode cX4_isHopeless 74 = .ok (.istore_n 2, 1) := by decide +kernel
theorem dX4_isHopeless_75 : decode cX4_isHopeless 75 = .ok (.iload_n 2, 1) := by decide +kernel
theorem dX4_isHopeless_76 : decode cX4_isHopeless 76 = .ok (.aload_n 0, 1) := by decide +kernel
theorem dX4_isHopeless_77 : decode cX4_isHopeless 77 = .ok (.getfield 34, 3) := by decide +kernel
theorem dX4_isHopeless_80 : decode cX4_isHopeless 80 = .ok (.getfield 43, 3) := by decide +kernel
theorem dX4_isHopeless_83 : decode cX4_isHopeless 83 = .ok (.if_icmp .ge 24, 3) := by decide +kernel
theorem dX4_isHopeless_86 : decode cX4_isHopeless 86 = .ok (.aload_n 0, 1) := by decide +kernel
theorem dX4_isHopeless_87 : decode cX4_isHopeless 87 = .ok (.iload_n 1, 1) := by decide +kernel
theorem dX4_isHopeless_88 : decode cX4_isHopeless 88 = .ok (.iload_n 2, 1) := by decide +kernel
theorem dX4_isHopeless_89 : decode cX4_isHopeless 89 = .ok (.invokevirtual 46, 3) := by decide +kernel
theorem dX4_isHopeless_92 : decode cX4_isHopeless 92 = .ok (.aload_n 0, 1) := by decide +kernel
theorem dX4_isHopeless_93 : decode cX4_isHopeless 93 = .ok (.getfield 20, 3) := by decide +kernel
theorem dX4_isHopeless_96 : decode cX4_isHopeless 96 = .ok (.if_icmp .le 5, 3) := by decide +kernel
theorem dX4_isHopeless_99 : decode cX4_isHopeless 99 = .ok (.iconst 1, 1) := by decide +kernel
theorem dX4_isHopeless_100 : decode cX4_isHopeless 100 = .ok (.ireturn, 1) := by decide +kernel
theorem dX4_isHopeless_101 : decode cX4_isHopeless 101 = .ok (.iinc 2 1, 3) := by decide +kernel
theorem dX4_isHopeless_104 : decode cX4_isHopeless 104 = .ok (.goto (-29), 3) := by decide +kernel
theorem dX4_isHopeless_107 : decode cX4_isHopeless 107 = .ok (.iconst 0, 1) := by decide +kernel
theorem dX4_isHopeless_108 : decode cX4_isHopeless 108 = .ok (.ireturn, 1) := by decide +kernel
theorem dX4_reach_0 : decode cX4_reach 0 = .ok (.aload_n 0, 1) := by decide +kernel
theorem dX4_reach_1 : decode cX4_reach 1 = .ok (.iconst 1, 1) := by decide +kernel
theorem dX4_reach_2 : decode cX4_reach 2 = .ok (.putfield 7, 3) := by decide +kernel
theorem dX4_reach_5 : decode cX4_reach 5 = .ok (.aload_n 0, 1) := by decide +kernel
theorem dX4_reach_6 : decode cX4_reach 6 = .ok (.aload_n 0, 1) := by decide +kernel
theorem dX4_reach_7 : decode cX4_reach 7 = .ok (.getfield 23, 3) := by decide +kernel
theorem dX4_reach_10 : decode cX4_reach 10 = .ok (.putfield 13, 3) := by decide +kernel
theorem dX4_reach_13 : decode cX4_reach 13 = .ok (.aload_n 0, 1) := by decide +kernel
theorem dX4_reach_14 : decode cX4_reach 14 = .ok (.invokevirtual 50, 3) := by decide +kernel
theorem dX4_reach_17 : decode cX4_reach 17 = .ok (.return_, 1) := by decide +kernel
theorem dX5_init_0 : decode cX5_init 0 = .ok (.aload_n 0, 1) := by decide +kernel
theorem dX5_init_1 : decode cX5_init 1 = .ok (.aload_n 1, 1) := by decide +kernel
theorem dX5_init_2 : decode cX5_init 2 = .ok (.invokespecial 3, 3) := by decide +kernel
theorem dX5_init_5 : decode cX5_init 5 = .ok (.aload_n 0, 1) := by decide +kernel
theorem dX5_init_6 : decode cX5_init 6 = .ok (.iconst 0, 1) := by decide +kernel
theorem dX5_init_7 : decode cX5_init 7 = .ok (.putfield 9, 3) := by decide +kernel
theorem dX5_init_10 : decode cX5_init 10 = .ok (.aload_n 0, 1) := by decide +kernel
theorem dX5_init_11 : decode cX5_init 11 = .ok (.iconst 0, 1) := by decide +kernel
theorem dX5_init_12 : decode cX5_init 12 = .ok (.putfield 15, 3) := by decide +kernel
theorem dX5_init_15 : decode cX5_init 15 = .ok (.aload_n 0, 1) := by decide +kernel
theorem dX5_init_16 : decode cX5_init 16 = .ok (.iconst 5, 1) := by decide +kernel
theorem dX5_init_17 : decode cX5_init 17 = .ok (.newarray .long, 2) := by decide +kernel
theorem dX5_init_19 : decode cX5_init 19 = .ok (.putfield 18, 3) := by decide +kernel
theorem dX5_init_22 : decode cX5_init 22 = .ok (.return_, 1) := by decide +kernel
theorem dX5_ask_0 : decode cX5_ask 0 = .ok (.aload_n 0, 1) := by decide +kernel
theorem dX5_ask_1 : decode cX5_ask 1 = .ok (.getfield 18, 3) := by decide +kernel
theorem dX5_ask_4 : decode cX5_ask 4 = .ok (.iload_n 1, 1) := by decide +kernel
theorem dX5_ask_5 : decode cX5_ask 5 = .ok (.laload, 1) := by decide +kernel
theorem dX5_ask_6 : decode cX5_ask 6 = .ok (.lload_n 2, 1) := by decide +kernel
theorem dX5_ask_7 : decode cX5_ask 7 = .ok (.lcmp, 1) := by decide +kernel
theorem dX5_ask_8 : decode cX5_ask 8 = .ok (.ifCond .eq 7, 3) := by decide +kernel
theorem dX5_ask_11 : decode cX5_ask 11 = .ok (.aload_n 0, 1) := by decide +kernel
theorem dX5_ask_12 : decode cX5_ask 12 = .ok (.invokevirtual 22, 3) := by decide +kernel
theorem dX5_ask_15 : decode cX5_ask 15 = .ok (.aload_n 0, 1) := by decide +kernel
theorem dX5_ask_16 : decode cX5_ask 16 = .ok (.getfield 18, 3) := by decide +kernel
theorem dX5_ask_19 : decode cX5_ask 19 = .ok (.iload_n 1, 1) := by decide +kernel
theorem dX5_ask_20 : decode cX5_ask 20 = .ok (.lload_n 2, 1) := by decide +kernel
theorem dX5_ask_21 : decode cX5_ask 21 = .ok (.lastore, 1) := by decide +kernel
theorem dX5_ask_22 : decode cX5_ask 22 = .ok (.return_, 1) := by decide +kernel
theorem dX5_begin_0 : decode cX5_begin 0 = .ok (.aload_n 0, 1) := by decide +kernel
theorem dX5_begin_1 : decode cX5_begin 1 = .ok (.iconst 0, 1) := by decide +kernel
theorem dX5_begin_2 : decode cX5_begin 2 = .ok (.putfield 9, 3) := by decide +kernel
theorem dX5_begin_5 : decode cX5_begin 5 = .ok (.aload_n 0, 1) := by decide +kernel
theorem dX5_begin_6 : decode cX5_begin 6 = .ok (.iconst 0, 1) := by decide +kernel
theorem dX5_begin_7 : decode cX5_begin 7 = .ok (.putfield 15, 3) := by decide +kernel
theorem dX5_begin_10 : decode cX5_begin 10 = .ok (.return_, 1) := by decide +kernel
theorem dX5_isHopeless_0 : decode cX5_isHopeless 0 = .ok (.iconst 0, 1) := by decide +kernel
theorem dX5_isHopeless_1 : decode cX5_isHopeless 1 = .ok (.istore_n 2, 1) := by decide +kernel
theorem dX5_isHopeless_2 : decode cX5_isHopeless 2 = .ok (.iload_n 2, 1) := by decide +kernel
theorem dX5_isHopeless_3 : decode cX5_isHopeless 3 = .ok (.aload_n 0, 1) := by decide +kernel
theorem dX5_isHopeless_4 : decode cX5_isHopeless 4 = .ok (.getfield 26, 3) := by decide +kernel
theorem dX5_isHopeless_7 : decode cX5_isHopeless 7 = .ok (.getfield 30, 3) := by decide +kernel
theorem dX5_isHopeless_10 : decode cX5_isHopeless 10 = .ok (.if_icmp .ge 45, 3) := by decide +kernel
theorem dX5_isHopeless_13 : decode cX5_isHopeless 13 = .ok (.aload_n 0, 1) := by decide +kernel
theorem dX5_isHopeless_14 : decode cX5_isHopeless 14 = .ok (.getfield 18, 3) := by decide +kernel
theorem dX5_isHopeless_17 : decode cX5_isHopeless 17 = .ok (.iload_n 2, 1) := by decide +kernel
theorem dX5_isHopeless_18 : decode cX5_isHopeless 18 = .ok (.laload, 1) := by decide +kernel
theorem dX5_isHopeless_19 : decode cX5_isHopeless 19 = .ok (.aload_n 0, 1) := by decide +kernel
theorem dX5_isHopeless_20 : decode cX5_isHopeless 20 = .ok (.iload_n 1, 1) := by decide +kernel
theorem dX5_isHopeless_21 : decode cX5_isHopeless 21 = .ok (.iload_n 2, 1) := by decide +kernel
theorem dX5_isHopeless_22 : decode cX5_isHopeless 22 = .ok (.invokevirtual 35, 3) := by decide +kernel
theorem dX5_isHopeless_25 : decode cX5_isHopeless 25 = .ok (.i2l, 1) := by decide +kernel
theorem dX5_isHopeless_26 : decode cX5_isHopeless 26 = .ok (.lcmp, 1) := by decide +kernel
theorem dX5_isHopeless_27 : decode cX5_isHopeless 27 = .ok (.ifCond .lt 20, 3) := by decide +kernel
theorem dX5_isHopeless_30 : decode cX5_isHopeless 30 = .ok (.aload_n 0, 1) := by decide +kernel
theorem dX5_isHopeless_31 : decode cX5_isHopeless 31 = .ok (.getfield 18, 3) := by decide +kernel
theorem dX5_isHopeless_34 : decode cX5_isHopeless 34 = .ok (.iload_n 2, 1) := by decide +kernel
theorem dX5_isHopeless_35 : decode cX5_isHopeless 35 = .ok (.laload, 1) := by decide +kernel
theorem dX5_isHopeless_36 : decode cX5_isHopeless 36 = .ok (.aload_n 0, 1) := by decide +kernel
theorem dX5_isHopeless_37 : decode cX5_isHopeless 37 = .ok (.iload_n 1, 1) := by decide +kernel
theorem dX5_isHopeless_38 : decode cX5_isHopeless 38 = .ok (.iload_n 2, 1) := by decide +kernel
theorem dX5_isHopeless_39 : decode cX5_isHopeless 39 = .ok (.invokevirtual 39, 3) := by decide +kernel
theorem dX5_isHopeless_42 : decode cX5_isHopeless 42 = .ok (.i2l, 1) := by decide +kernel
theorem dX5_isHopeless_43 : decode cX5_isHopeless 43 = .ok (.lcmp, 1) := by decide +kernel
theorem dX5_isHopeless_44 : decode cX5_isHopeless 44 = .ok (.ifCond .le 5, 3) := by decide +kernel
theorem dX5_isHopeless_47 : decode cX5_isHopeless 47 = .ok (.iconst 1, 1) := by decide +kernel
theorem dX5_isHopeless_48 : decode cX5_isHopeless 48 = .ok (.ireturn, 1) := by decide +kernel
theorem dX5_isHopeless_49 : decode cX5_isHopeless 49 = .ok (.iinc 2 1, 3) := by decide +kernel
theorem dX5_isHopeless_52 : decode cX5_isHopeless 52 = .ok (.goto (-50), 3) := by decide +kernel
theorem dX5_isHopeless_55 : decode cX5_isHopeless 55 = .ok (.iconst 0, 1) := by decide +kernel
theorem dX5_isHopeless_56 : decode cX5_isHopeless 56 = .ok (.ireturn, 1) := by decide +kernel
theorem dX5_reach_0 : decode cX5_reach 0 = .ok (.aload_n 0, 1) := by decide +kernel
theorem dX5_reach_1 : decode cX5_reach 1 = .ok (.dup, 1) := by decide +kernel
theorem dX5_reach_2 : decode cX5_reach 2 = .ok (.getfield 9, 3) := by decide +kernel
theorem dX5_reach_5 : decode cX5_reach 5 = .ok (.iconst 1, 1) := by decide +kernel
theorem dX5_reach_6 : decode cX5_reach 6 = .ok (.iadd, 1) := by decide +kernel
theorem dX5_reach_7 : decode cX5_reach 7 = .ok (.putfield 9, 3) := by decide +kernel
theorem dX5_reach_10 : decode cX5_reach 10 = .ok (.aload_n 0, 1) := by decide +kernel
theorem dX5_reach_11 : decode cX5_reach 11 = .ok (.getfield 9, 3) := by decide +kernel
theorem dX5_reach_14 : decode cX5_reach 14 = .ok (.iconst 1, 1) := by decide +kernel
theorem dX5_reach_15 : decode cX5_reach 15 = .ok (.if_icmp .ne 22, 3) := by decide +kernel
theorem dX5_reach_18 : decode cX5_reach 18 = .ok (.aload_n 0, 1) := by decide +kernel
theorem dX5_reach_19 : decode cX5_reach 19 = .ok (.invokevirtual 42, 3) := by decide +kernel
theorem dX5_reach_22 : decode cX5_reach 22 = .ok (.aload_n 0, 1) := by decide +kernel
theorem dX5_reach_23 : decode cX5_reach 23 = .ok (.iconst 1, 1) := by decide +kernel
theorem dX5_reach_24 : decode cX5_reach 24 = .ok (.aload_n 0, 1) := by decide +kernel
theorem dX5_reach_25 : decode cX5_reach 25 = .ok (.getfield 26, 3) := by decide +kernel
theorem dX5_reach_28 : decode cX5_reach 28 = .ok (.getfield 45, 3) := by decide +kernel
theorem dX5_reach_31 : decode cX5_reach 31 = .ok (.ishl, 1) := by decide +kernel
theorem dX5_reach_32 : decode cX5_reach 32 = .ok (.iconst 1, 1) := by decide +kernel
theorem dX5_reach_33 : decode cX5_reach 33 = .ok (.isub, 1) := by decide +kernel
theorem dX5_reach_34 : decode cX5_reach 34 = .ok (.putfield 15, 3) := by decide +kernel
theorem dX5_reach_37 : decode cX5_reach 37 = .ok (.iconst 0, 1) := by decide +kernel
theorem dX5_reach_38 : decode cX5_reach 38 = .ok (.istore_n 1, 1) := by decide +kernel
theorem dX5_reach_39 : decode cX5_reach 39 = .ok (.iload_n 1, 1) := by decide +kernel
theorem dX5_reach_40 : decode cX5_reach 40 = .ok (.aload_n 0, 1) := by decide +kernel
theorem dX5_reach_41 : decode cX5_reach 41 = .ok (.getfield 26, 3) := by decide +kernel
theorem dX5_reach_44 : decode cX5_reach 44 = .ok (.getfield 45, 3) := by decide +kernel
theorem dX5_reach_47 : decode cX5_reach 47 = .ok (.if_icmp .ge 38, 3) := by decide +kernel
theorem dX5_reach_50 : decode cX5_reach 50 = .ok (.aload_n 0, 1) := by decide +kernel
theorem dX5_reach_51 : decode cX5_reach 51 = .ok (.getfield 48, 3) := by decide +kernel
theorem dX5_reach_54 : decode cX5_reach 54 = .ok (.iload_n 1, 1) := by decide +kernel
theorem dX5_reach_55 : decode cX5_reach 55 = .ok (.iaload, 1) := by decide +kernel
theorem dX5_reach_56 : decode cX5_reach 56 = .ok (.aload_n 0, 1) := by decide +kernel
theorem dX5_reach_57 : decode cX5_reach 57 = .ok (.getfield 52, 3) := by decide +kernel
theorem dX5_reach_60 : decode cX5_reach 60 = .ok (.iload_n 1, 1) := by decide +kernel
theorem dX5_reach_61 : decode cX5_reach 61 = .ok (.iaload, 1) := by decide +kernel
theorem dX5_reach_62 : decode cX5_reach 62 = .ok (.if_icmp .eq 17, 3) := by decide +kernel
theorem dX5_reach_65 : decode cX5_reach 65 = .ok (.aload_n 0, 1) := by decide +kernel
theorem dX5_reach_66 : decode cX5_reach 66 = .ok (.dup, 1) := by decide +kernel
theorem dX5_reach_67 : decode cX5_reach 67 = .ok (.getfield 15, 3) := by decide +kernel
theorem dX5_reach_70 : decode cX5_reach 70 = .ok (.iconst 1, 1) := by decide +kernel
theorem dX5_reach_71 : decode cX5_reach 71 = .ok (.iload_n 1, 1) := by decide +kernel
theorem dX5_reach_72 : decode cX5_reach 72 = .ok (.ishl, 1) := by decide +kernel
theorem dX5_reach_73 : decode cX5_reach 73 = .ok (.iconst (-1), 1) := by decide +kernel
theorem dX5_reach_74 : decode cX5_reach 74 = .ok (.ixor, 1) := by decide +kernel
theorem dX5_reach_75 : decode cX5_reach 75 = .ok (.iand, 1) := by decide +kernel
theorem dX5_reach_76 : decode cX5_reach 76 = .ok (.putfield 15, 3) := by decide +kernel
theorem dX5_reach_79 : decode cX5_reach 79 = .ok (.iinc 1 1, 3) := by decide +kernel
theorem dX5_reach_82 : decode cX5_reach 82 = .ok (.goto (-43), 3) := by decide +kernel
theorem dX5_reach_85 : decode cX5_reach 85 = .ok (.return_, 1) := by decide +kernel
theorem dX5_firstAsDigits_0 : decode cX5_firstAsDigits 0 = .ok (.iconst 0, 1) := by decide +kernel
theorem dX5_firstAsDigits_1 : decode cX5_firstAsDigits 1 = .ok (.istore_n 1, 1) := by decide +kernel
theorem dX5_firstAsDigits_2 : decode cX5_firstAsDigits 2 = .ok (.iconst 0, 1) := by decide +kernel
theorem dX5_firstAsDigits_3 : decode cX5_firstAsDigits 3 = .ok (.istore_n 2, 1) := by decide +kernel
theorem dX5_firstAsDigits_4 : decode cX5_firstAsDigits 4 = .ok (.iload_n 2, 1) := by decide +kernel
theorem dX5_firstAsDigits_5 : decode cX5_firstAsDigits 5 = .ok (.aload_n 0, 1) := by decide +kernel
theorem dX5_firstAsDigits_6 : decode cX5_firstAsDigits 6 = .ok (.getfield 26, 3) := by decide +kernel
theorem dX5_firstAsDigits_9 : decode cX5_firstAsDigits 9 = .ok (.getfield 45, 3) := by decide +kernel
theorem dX5_firstAsDigits_12 : decode cX5_firstAsDigits 12 = .ok (.if_icmp .ge 20, 3) := by decide +kernel
theorem dX5_firstAsDigits_15 : decode cX5_firstAsDigits 15 = .ok (.iload_n 1, 1) := by decide +kernel
theorem dX5_firstAsDigits_16 : decode cX5_firstAsDigits 16 = .ok (.iconst 3, 1) := by decide +kernel
theorem dX5_firstAsDigits_17 : decode cX5_firstAsDigits 17 = .ok (.imul, 1) := by decide +kernel
theorem dX5_firstAsDigits_18 : decode cX5_firstAsDigits 18 = .ok (.aload_n 0, 1) := by decide +kernel
theorem dX5_firstAsDigits_19 : decode cX5_firstAsDigits 19 = .ok (.getfield 52, 3) := by decide +kernel
theorem dX5_firstAsDigits_22 : decode cX5_firstAsDigits 22 = .ok (.iload_n 2, 1) := by decide +kernel
theorem dX5_firstAsDigits_23 : decode cX5_firstAsDigits 23 = .ok (.iaload, 1) := by decide +kernel
theorem dX5_firstAsDigits_24 : decode cX5_firstAsDigits 24 = .ok (.iadd, 1) := by decide +kernel
theorem dX5_firstAsDigits_25 : decode cX5_firstAsDigits 25 = .ok (.istore_n 1, 1) := by decide +kernel
theorem dX5_firstAsDigits_26 : decode cX5_firstAsDigits 26 = .ok (.iinc 2 1, 3) := by decide +kernel
theorem dX5_firstAsDigits_29 : decode cX5_firstAsDigits 29 = .ok (.goto (-25), 3) := by decide +kernel
theorem dX5_firstAsDigits_32 : decode cX5_firstAsDigits 32 = .ok (.iload_n 1, 1) := by decide +kernel
theorem dX5_firstAsDigits_33 : decode cX5_firstAsDigits 33 = .ok (.ireturn, 1) := by decide +kernel
theorem dX6_init_0 : decode cX6_init 0 = .ok (.aload_n 0, 1) := by decide +kernel
theorem dX6_init_1 : decode cX6_init 1 = .ok (.invokespecial 3, 3) := by decide +kernel
theorem dX6_init_4 : decode cX6_init 4 = .ok (.aload_n 0, 1) := by decide +kernel
theorem dX6_init_5 : decode cX6_init 5 = .ok (.bipush 10, 2) := by decide +kernel
theorem dX6_init_7 : decode cX6_init 7 = .ok (.newarray .int, 2) := by decide +kernel
theorem dX6_init_9 : decode cX6_init 9 = .ok (.putfield 9, 3) := by decide +kernel
theorem dX6_init_12 : decode cX6_init 12 = .ok (.aload_n 0, 1) := by decide +kernel
theorem dX6_init_13 : decode cX6_init 13 = .ok (.bipush 10, 2) := by decide +kernel
theorem dX6_init_15 : decode cX6_init 15 = .ok (.newarray .int, 2) := by decide +kernel
theorem dX6_init_17 : decode cX6_init 17 = .ok (.putfield 15, 3) := by decide +kernel
theorem dX6_init_20 : decode cX6_init 20 = .ok (.aload_n 0, 1) := by decide +kernel
theorem dX6_init_21 : decode cX6_init 21 = .ok (.bipush 15, 2) := by decide +kernel
theorem dX6_init_23 : decode cX6_init 23 = .ok (.newarray .int, 2) := by decide +kernel
theorem dX6_init_25 : decode cX6_init 25 = .ok (.putfield 18, 3) := by decide +kernel
theorem dX6_init_28 : decode cX6_init 28 = .ok (.aload_n 0, 1) := by decide +kernel
theorem dX6_init_29 : decode cX6_init 29 = .ok (.bipush 55, 2) := by decide +kernel
theorem dX6_init_31 : decode cX6_init 31 = .ok (.newarray .int, 2) := by decide +kernel
theorem dX6_init_33 : decode cX6_init 33 = .ok (.putfield 21, 3) := by decide +kernel
theorem dX6_init_36 : decode cX6_init 36 = .ok (.aload_n 0, 1) := by decide +kernel
theorem dX6_init_37 : decode cX6_init 37 = .ok (.iconst (-1), 1) := by decide +kernel
theorem dX6_init_38 : decode cX6_init 38 = .ok (.putfield 24, 3) := by decide +kernel
theorem dX6_init_41 : decode cX6_init 41 = .ok (.aload_n 0, 1) := by decide +kernel
theorem dX6_init_42 : decode cX6_init 42 = .ok (.aload_n 1, 1) := by decide +kernel
theorem dX6_init_43 : decode cX6_init 43 = .ok (.putfield 28, 3) := by decide +kernel
theorem dX6_init_46 : decode cX6_init 46 = .ok (.return_, 1) := by decide +kernel
theorem dX6_solve_0 : decode cX6_solve 0 = .ok (.aload_n 0, 1) := by decide +kernel
theorem dX6_solve_1 : decode cX6_solve 1 = .ok (.getfield 24, 3) := by decide +kernel
theorem dX6_solve_4 : decode cX6_solve 4 = .ok (.aload_n 0, 1) := by decide +kernel
theorem dX6_solve_5 : decode cX6_solve 5 = .ok (.getfield 28, 3) := by decide +kernel
theorem dX6_solve_8 : decode cX6_solve 8 = .ok (.getfield 32, 3) := by decide +kernel
theorem dX6_solve_11 : decode cX6_solve 11 = .ok (.if_icmp .ne 4, 3) := by decide +kernel
theorem dX6_solve_14 : decode cX6_solve 14 = .ok (.return_, 1) := by decide +kernel
theorem dX6_solve_15 : decode cX6_solve 15 = .ok (.aload_n 0, 1) := by decide +kernel
theorem dX6_solve_16 : decode cX6_solve 16 = .ok (.aload_n 0, 1) := by decide +kernel
theorem dX6_solve_17 : decode cX6_solve 17 = .ok (.getfield 28, 3) := by decide +kernel
theorem dX6_solve_20 : decode cX6_solve 20 = .ok (.getfield 32, 3) := by decide +kernel
theorem dX6_solve_23 : decode cX6_solve 23 = .ok (.putfield 24, 3) := by decide +kernel
theorem dX6_solve_26 : decode cX6_solve 26 = .ok (.aload_n 0, 1) := by decide +kernel
theorem dX6_solve_27 : decode cX6_solve 27 = .ok (.invokevirtual 37, 3) := by decide +kernel
theorem dX6_solve_30 : decode cX6_solve 30 = .ok (.aload_n 0, 1) := by decide +kernel
theorem dX6_solve_31 : decode cX6_solve 31 = .ok (.invokevirtual 40, 3) := by decide +kernel
theorem dX6_solve_34 : decode cX6_solve 34 = .ok (.aload_n 0, 1) := by decide +kernel
theorem dX6_solve_35 : decode cX6_solve 35 = .ok (.iconst 0, 1) := by decide +kernel
theorem dX6_solve_36 : decode cX6_solve 36 = .ok (.invokevirtual 43, 3) := by decide +kernel
theorem dX6_solve_39 : decode cX6_solve 39 = .ok (.return_, 1) := by decide +kernel
theorem dX6_forget_0 : decode cX6_forget 0 = .ok (.aload_n 0, 1) := by decide +kernel
theorem dX6_forget_1 : decode cX6_forget 1 = .ok (.iconst (-1), 1) := by decide +kernel
theorem dX6_forget_2 : decode cX6_forget 2 = .ok (.putfield 24, 3) := by decide +kernel
theorem dX6_forget_5 : decode cX6_forget 5 = .ok (.return_, 1) := by decide +kernel
theorem dX6_weighAhead_0 : decode cX6_weighAhead 0 = .ok (.aload_n 0, 1) := by decide +kernel
theorem dX6_weighAhead_1 : decode cX6_weighAhead 1 = .ok (.getfield 28, 3) := by decide +kernel
theorem dX6_weighAhead_4 : decode cX6_weighAhead 4 = .ok (.getfield 47, 3) := by decide +kernel
theorem dX6_weighAhead_7 : decode cX6_weighAhead 7 = .ok (.iconst 1, 1) := by decide +kernel
theorem dX6_weighAhead_8 : decode cX6_weighAhead 8 = .ok (.isub, 1) := by decide +kernel
theorem dX6_weighAhead_9 : decode cX6_weighAhead 9 = .ok (.istore_n 1, 1) := by decide +kernel
theorem dX6_weighAhead_10 : decode cX6_weighAhead 10 = .ok (.iload_n 1, 1) := by decide +kernel
theorem dX6_weighAhead_11 : decode cX6_weighAhead 11 = .ok (.ifCond .lt 56, 3) := by decide +kernel
theorem dX6_weighAhead_14 : decode cX6_weighAhead 14 = .ok (.iconst 0, 1) := by decide +kernel
theorem dX6_weighAhead_15 : decode cX6_weighAhead 15 = .ok (.istore_n 2, 1) := by decide +kernel
theorem dX6_weighAhead_16 : decode cX6_weighAhead 16 = .ok (.iload_n 2, 1) := by decide +kernel
theorem dX6_weighAhead_17 : decode cX6_weighAhead 17 = .ok (.aload_n 0, 1) := by decide +kernel
theorem dX6_weighAhead_18 : decode cX6_weighAhead 18 = .ok (.getfield 28, 3) := by decide +kernel
theorem dX6_weighAhead_21 : decode cX6_weighAhead 21 = .ok (.getfield 50, 3) := by decide +kernel
theorem dX6_weighAhead_24 : decode cX6_weighAhead 24 = .ok (.if_icmp .ge 37, 3) := by decide +kernel
theorem dX6_weighAhead_27 : decode cX6_weighAhead 27 = .ok (.aload_n 0, 1) := by decide +kernel
theorem dX6_weighAhead_28 : decode cX6_weighAhead 28 = .ok (.getfield 21, 3) := by decide +kernel
theorem dX6_weighAhead_31 : decode cX6_weighAhead 31 = .ok (.iload_n 1, 1) := by decide +kernel
theorem dX6_weighAhead_32 : decode cX6_weighAhead 32 = .ok (.iconst 5, 1) := by decide +kernel
theorem dX6_weighAhead_33 : decode cX6_weighAhead 33 = .ok (.imul, 1) := by decide +kernel
theorem dX6_weighAhead_34 : decode cX6_weighAhead 34 = .ok (.iload_n 2, 1) := by decide +kernel
theorem dX6_weighAhead_35 : decode cX6_weighAhead 35 = .ok (.iadd, 1) := by decide +kernel
theorem dX6_weighAhead_36 : decode cX6_weighAhead 36 = .ok (.aload_n 0, 1) := by decide +kernel
theorem dX6_weighAhead_37 : decode cX6_weighAhead 37 = .ok (.iload_n 1, 1) := by decide +kernel
theorem dX6_weighAhead_38 : decode cX6_weighAhead 38 = .ok (.iconst 1, 1) := by decide +kernel
theorem dX6_weighAhead_39 : decode cX6_weighAhead 39 = .ok (.iadd, 1) := by decide +kernel
theorem dX6_weighAhead_40 : decode cX6_weighAhead 40 = .ok (.iload_n 2, 1) := by decide +kernel
theorem dX6_weighAhead_41 : decode cX6_weighAhead 41 = .ok (.invokevirtual 53, 3) := by decide +kernel
theorem dX6_weighAhead_44 : decode cX6_weighAhead 44 = .ok (.aload_n 0, 1) := by decide +kernel
theorem dX6_weighAhead_45 : decode cX6_weighAhead 45 = .ok (.getfield 28, 3) := by decide +kernel
theorem dX6_weighAhead_48 : decode cX6_weighAhead 48 = .ok (.iload_n 1, 1) := by decide +kernel
theorem dX6_weighAhead_49 : decode cX6_weighAhead 49 = .ok (.iload_n 2, 1) := by decide +kernel
theorem dX6_weighAhead_50 : decode cX6_weighAhead 50 = .ok (.invokevirtual 57, 3) := by decide +kernel
theorem dX6_weighAhead_53 : decode cX6_weighAhead 53 = .ok (.iadd, 1) := by decide +kernel
theorem dX6_weighAhead_54 : decode cX6_weighAhead 54 = .ok (.iastore, 1) := by decide +kernel
theorem dX6_weighAhead_55 : decode cX6_weighAhead 55 = .ok (.iinc 2 1, 3) := by decide +kernel
theorem dX6_weighAhead_58 : decode cX6_weighAhead 58 = .ok (.goto (-42), 3) := by decide +kernel
theorem dX6_weighAhead_61 : decode cX6_weighAhead 61 = .ok (.iinc 1 (-1), 3) := by decide +kernel
theorem dX6_weighAhead_64 : decode cX6_weighAhead 64 = .ok (.goto (-54), 3) := by decide +kernel
theorem dX6_weighAhead_67 : decode cX6_weighAhead 67 = .ok (.return_, 1) := by decide +kernel
theorem dX6_loadAhead_0 : decode cX6_loadAhead 0 = .ok (.iload_n 1, 1) := by decide +kernel
theorem dX6_loadAhead_1 : decode cX6_loadAhead 1 = .ok (.aload_n 0, 1) := by decide +kernel
theorem dX6_loadAhead_2 : decode cX6_loadAhead 2 = .ok (.getfield 28, 3) := by decide +kernel
theorem dX6_loadAhead_5 : decode cX6_loadAhead 5 = .ok (.getfield 47, 3) := by decide +kernel
theorem dX6_loadAhead_8 : decode cX6_loadAhead 8 = .ok (.if_icmp .ge 16, 3) := by decide +kernel
theorem dX6_loadAhead_11 : decode cX6_loadAhead 11 = .ok (.aload_n 0, 1) := by decide +kernel
theorem dX6_loadAhead_12 : decode cX6_loadAhead 12 = .ok (.getfield 21, 3) := by decide +kernel
theorem dX6_loadAhead_15 : decode cX6_loadAhead 15 = .ok (.iload_n 1, 1) := by decide +kernel
theorem dX6_loadAhead_16 : decode cX6_loadAhead 16 = .ok (.iconst 5, 1) := by decide +kernel
theorem dX6_loadAhead_17 : decode cX6_loadAhead 17 = .ok (.imul, 1) := by decide +kernel
theorem dX6_loadAhead_18 : decode cX6_loadAhead 18 = .ok (.iload_n 2, 1) := by decide +kernel
theorem dX6_loadAhead_19 : decode cX6_loadAhead 19 = .ok (.iadd, 1) := by decide +kernel
theorem dX6_loadAhead_20 : decode cX6_loadAhead 20 = .ok (.iaload, 1) := by decide +kernel
theorem dX6_loadAhead_21 : decode cX6_loadAhead 21 = .ok (.goto 4, 3) := by decide +kernel
theorem dX6_loadAhead_24 : decode cX6_loadAhead 24 = .ok (.iconst 0, 1) := by decide +kernel
theorem dX6_loadAhead_25 : decode cX6_loadAhead 25 = .ok (.ireturn, 1) := by decide +kernel
theorem dX6_place_0 : decode cX6_place 0 = .ok (.aload_n 0, 1) := by decide +kernel
theorem dX6_place_1 : decode cX6_place 1 = .ok (.iload_n 1, 1) := by decide +kernel
theorem dX6_place_2 : decode cX6_place 2 = .ok (.invokevirtual 60, 3) := by decide +kernel
theorem dX6_place_5 : decode cX6_place 5 = .ok (.ifCond .eq 4, 3) := by decide +kernel
theorem dX6_place_8 : decode cX6_place 8 = .ok (.return_, 1) := by decide +kernel
theorem dX6_place_9 : decode cX6_place 9 = .ok (.iload_n 1, 1) := by decide +kernel
theorem dX6_place_10 : decode cX6_place 10 = .ok (.aload_n 0, 1) := by decide +kernel
theorem dX6_place_11 : decode cX6_place 11 = .ok (.getfield 28, 3) := by decide +kernel
theorem dX6_place_14 : decode cX6_place 14 = .ok (.getfield 47, 3) := by decide +kernel
theorem dX6_place_17 : decode cX6_place 17 = .ok (.if_icmp .lt 8, 3) := by decide +kernel
theorem dX6_place_20 : decode cX6_place 20 = .ok (.aload_n 0, 1) := by decide +kernel
theorem dX6_place_21 : decode cX6_place 21 = .ok (.invokevirtual 64, 3) := by decide +kernel
theorem dX6_place_24 : decode cX6_place 24 = .ok (.return_, 1) := by decide +kernel
theorem dX6_place_25 : decode cX6_place 25 = .ok (.iconst 0, 1) := by decide +kernel
theorem dX6_place_26 : decode cX6_place 26 = .ok (.istore_n 2, 1) := by decide +kernel
theorem dX6_place_27 : decode cX6_place 27 = .ok (.iload_n 2, 1) := by decide +kernel
theorem dX6_place_28 : decode cX6_place 28 = .ok (.iconst 3, 1) := by decide +kernel
theorem dX6_place_29 : decode cX6_place 29 = .ok (.if_icmp .ge 75, 3) := by decide +kernel
theorem dX6_place_32 : decode cX6_place 32 = .ok (.aload_n 0, 1) := by decide +kernel
theorem dX6_place_33 : decode cX6_place 33 = .ok (.getfield 9, 3) := by decide +kernel
theorem dX6_place_36 : decode cX6_place 36 = .ok (.iload_n 1, 1) := by decide +kernel
theorem dX6_place_37 : decode cX6_place 37 = .ok (.iload_n 2, 1) := by decide +kernel
theorem dX6_place_38 : decode cX6_place 38 = .ok (.iastore, 1) := by decide +kernel
theorem dX6_place_39 : decode cX6_place 39 = .ok (.aload_n 0, 1) := by decide +kernel
theorem dX6_place_40 : decode cX6_place 40 = .ok (.getfield 28, 3) := by decide +kernel
theorem dX6_place_43 : decode cX6_place 43 = .ok (.aload_n 0, 1) := by decide +kernel
theorem dX6_place_44 : decode cX6_place 44 = .ok (.getfield 9, 3) := by decide +kernel
theorem dX6_place_47 : decode cX6_place 47 = .ok (.iload_n 1, 1) := by decide +kernel
theorem dX6_place_48 : decode cX6_place 48 = .ok (.invokevirtual 67, 3) := by decide +kernel
theorem dX6_place_51 : decode cX6_place 51 = .ok (.ifCond .eq 47, 3) := by decide +kernel
theorem dX6_place_54 : decode cX6_place 54 = .ok (.aload_n 0, 1) := by decide +kernel
theorem dX6_place_55 : decode cX6_place 55 = .ok (.getfield 28, 3) := by decide +kernel
theorem dX6_place_58 : decode cX6_place 58 = .ok (.aload_n 0, 1) := by decide +kernel
theorem dX6_place_59 : decode cX6_place 59 = .ok (.getfield 9, 3) := by decide +kernel
theorem dX6_place_62 : decode cX6_place 62 = .ok (.iload_n 1, 1) := by decide +kernel
theorem dX6_place_63 : decode cX6_place 63 = .ok (.invokevirtual 71, 3) := by decide +kernel
theorem dX6_place_66 : decode cX6_place 66 = .ok (.ifCond .eq 32, 3) := by decide +kernel
theorem dX6_place_69 : decode cX6_place 69 = .ok (.aload_n 0, 1) := by decide +kernel
theorem dX6_place_70 : decode cX6_place 70 = .ok (.iload_n 1, 1) := by decide +kernel
theorem dX6_place_71 : decode cX6_place 71 = .ok (.iload_n 2, 1) := by decide +kernel
theorem dX6_place_72 : decode cX6_place 72 = .ok (.iconst 1, 1) := by decide +kernel
theorem dX6_place_73 : decode cX6_place 73 = .ok (.invokevirtual 74, 3) := by decide +kernel
theorem dX6_place_76 : decode cX6_place 76 = .ok (.aload_n 0, 1) := by decide +kernel
theorem dX6_place_77 : decode cX6_place 77 = .ok (.iload_n 2, 1) := by decide +kernel
theorem dX6_place_78 : decode cX6_place 78 = .ok (.invokevirtual 78, 3) := by decide +kernel
theorem dX6_place_81 : decode cX6_place 81 = .ok (.ifCond .eq 10, 3) := by decide +kernel
theorem dX6_place_84 : decode cX6_place 84 = .ok (.aload_n 0, 1) := by decide +kernel
theorem dX6_place_85 : decode cX6_place 85 = .ok (.iload_n 1, 1) := by decide +kernel
theorem dX6_place_86 : decode cX6_place 86 = .ok (.iconst 1, 1) := by decide +kernel
theorem dX6_place_87 : decode cX6_place 87 = .ok (.iadd, 1) := by decide +kernel
theorem dX6_place_88 : decode cX6_place 88 = .ok (.invokevirtual 43, 3) := by decide +kernel
theorem dX6_place_91 : decode cX6_place 91 = .ok (.aload_n 0, 1) := by decide +kernel
theorem dX6_place_92 : decode cX6_place 92 = .ok (.iload_n 1, 1) := by decide +kernel
theorem dX6_place_93 : decode cX6_place 93 = .ok (.iload_n 2, 1) := by decide +kernel
theorem dX6_place_94 : decode cX6_place 94 = .ok (.iconst (-1), 1) := by decide +kernel
theorem dX6_place_95 : decode cX6_place 95 = .ok (.invokevirtual 74, 3) := by decide +kernel
theorem dX6_place_98 : decode cX6_place 98 = .ok (.iinc 2 1, 3) := by decide +kernel
theorem dX6_place_101 : decode cX6_place 101 = .ok (.goto (-74), 3) := by decide +kernel
theorem dX6_place_104 : decode cX6_place 104 = .ok (.return_, 1) := by decide +kernel
theorem dX6_shift_0 : decode cX6_shift 0 = .ok (.iconst 0, 1) := by decide +kernel
theorem dX6_shift_1 : decode cX6_shift 1 = .ok (.istore 4, 2) := by decide +kernel
theorem dX6_shift_3 : decode cX6_shift 3 = .ok (.iload 4, 2) := by decide +kernel
theorem dX6_shift_5 : decode cX6_shift 5 = .ok (.aload_n 0, 1) := by decide +kernel
theorem dX6_shift_6 : decode cX6_shift 6 = .ok (.getfield 28, 3) := by decide +kernel
theorem dX6_shift_9 : decode cX6_shift 9 = .ok (.getfield 50, 3) := by decide +kernel
theorem dX6_shift_12 : decode cX6_shift 12 = .ok (.if_icmp .ge 42, 3) := by decide +kernel
theorem dX6_shift_15 : decode cX6_shift 15 = .ok (.aload_n 0, 1) := by decide +kernel
theorem dX6_shift_16 : decode cX6_shift 16 = .ok (.getfield 18, 3) := by decide +kernel
theorem dX6_shift_19 : decode cX6_shift 19 = .ok (.iload 4, 2) := by decide +kernel
theorem dX6_shift_21 : decode cX6_shift 21 = .ok (.iconst 3, 1) := by decide +kernel
theorem dX6_shift_22 : decode cX6_shift 22 = .ok (.imul, 1) := by decide +kernel
theorem dX6_shift_23 : decode cX6_shift 23 = .ok (.iload_n 2, 1) := by decide +kernel
theorem dX6_shift_24 : decode cX6_shift 24 = .ok (.iadd, 1) := by decide +kernel
theorem dX6_shift_25 : decode cX6_shift 25 = .ok (.dup2, 1) := by decide +kernel
theorem dX6_shift_26 : decode cX6_shift 26 = .ok (.iaload, 1) := by decide +kernel
theorem dX6_shift_27 : decode cX6_shift 27 = .ok (.iload_n 3, 1) := by decide +kernel
theorem dX6_shift_28 : decode cX6_shift 28 = .ok (.aload_n 0, 1) := by decide +kernel
theorem dX6_shift_29 : decode cX6_shift 29 = .ok (.iload_n 1, 1) := by decide +kernel
theorem dX6_shift_30 : decode cX6_shift 30 = .ok (.iload 4, 2) := by decide +kernel
theorem dX6_shift_32 : decode cX6_shift 32 = .ok (.invokevirtual 53, 3) := by decide +kernel
theorem dX6_shift_35 : decode cX6_shift 35 = .ok (.aload_n 0, 1) := by decide +kernel
theorem dX6_shift_36 : decode cX6_shift 36 = .ok (.iload_n 1, 1) := by decide +kernel
theorem dX6_shift_37 : decode cX6_shift 37 = .ok (.iconst 1, 1) := by decide +kernel
theorem dX6_shift_38 : decode cX6_shift 38 = .ok (.iadd, 1) := by decide +kernel
theorem dX6_shift_39 : decode cX6_shift 39 = .ok (.iload 4, 2) := by decide +kernel
theorem dX6_shift_41 : decode cX6_shift 41 = .ok (.invokevirtual 53, 3) := by decide +kernel
theorem dX6_shift_44 : decode cX6_shift 44 = .ok (.isub, 1) := by decide +kernel
theorem dX6_shift_45 : decode cX6_shift 45 = .ok (.imul, 1) := by decide +kernel
theorem dX6_shift_46 : decode cX6_shift 46 = .ok (.iadd, 1) := by decide +kernel
theorem dX6_shift_47 : decode cX6_shift 47 = .ok (.iastore, 1) := by decide +kernel
theorem dX6_shift_48 : decode cX6_shift 48 = .ok (.iinc 4 1, 3) := by decide +kernel
theorem dX6_shift_51 : decode cX6_shift 51 = .ok (.goto (-48), 3) := by decide +kernel
theorem dX6_shift_54 : decode cX6_shift 54 = .ok (.return_, 1) := by decide +kernel
theorem dX6_stillHolds_0 : decode cX6_stillHolds 0 = .ok (.iconst 0, 1) := by decide +kernel
theorem dX6_stillHolds_1 : decode cX6_stillHolds 1 = .ok (.istore_n 2, 1) := by decide +kernel
theorem dX6_stillHolds_2 : decode cX6_stillHolds 2 = .ok (.iload_n 2, 1) := by decide +kernel
theorem dX6_stillHolds_3 : decode cX6_stillHolds 3 = .ok (.aload_n 0, 1) := by decide +kernel
theorem dX6_stillHolds_4 : decode cX6_stillHolds 4 = .ok (.getfield 28, 3) := by decide +kernel
theorem dX6_stillHolds_7 : decode cX6_stillHolds 7 = .ok (.getfield 50, 3) := by decide +kernel
theorem dX6_stillHolds_10 : decode cX6_stillHolds 10 = .ok (.if_icmp .ge 33, 3) := by decide +kernel
theorem dX6_stillHolds_13 : decode cX6_stillHolds 13 = .ok (.aload_n 0, 1) := by decide +kernel
theorem dX6_stillHolds_14 : decode cX6_stillHolds 14 = .ok (.getfield 18, 3) := by decide +kernel
theorem dX6_stillHolds_17 : decode cX6_stillHolds 17 = .ok (.iload_n 2, 1) := by decide +kernel
theorem dX6_stillHolds_18 : decode cX6_stillHolds 18 = .ok (.iconst 3, 1) := by decide +kernel
theorem dX6_stillHolds_19 : decode cX6_stillHolds 19 = .ok (.imul, 1) := by decide +kernel
theorem dX6_stillHolds_20 : decode cX6_stillHolds 20 = .ok (.iload_n 1, 1) := by decide +kernel
theorem dX6_stillHolds_21 : decode cX6_stillHolds 21 = .ok (.iadd, 1) := by decide +kernel
theorem dX6_stillHolds_22 : decode cX6_stillHolds 22 = .ok (.iaload, 1) := by decide +kernel
theorem dX6_stillHolds_23 : decode cX6_stillHolds 23 = .ok (.aload_n 0, 1) := by decide +kernel
theorem dX6_stillHolds_24 : decode cX6_stillHolds 24 = .ok (.getfield 28, 3) := by decide +kernel
theorem dX6_stillHolds_27 : decode cX6_stillHolds 27 = .ok (.getfield 81, 3) := by decide +kernel
theorem dX6_stillHolds_30 : decode cX6_stillHolds 30 = .ok (.iload_n 1, 1) := by decide +kernel
theorem dX6_stillHolds_31 : decode cX6_stillHolds 31 = .ok (.iaload, 1) := by decide +kernel
theorem dX6_stillHolds_32 : decode cX6_stillHolds 32 = .ok (.if_icmp .le 5, 3) := by decide +kernel
theorem dX6_stillHolds_35 : decode cX6_stillHolds 35 = .ok (.iconst 0, 1) := by decide +kernel
theorem dX6_stillHolds_36 : decode cX6_stillHolds 36 = .ok (.ireturn, 1) := by decide +kernel
theorem dX6_stillHolds_37 : decode cX6_stillHolds 37 = .ok (.iinc 2 1, 3) := by decide +kernel
theorem dX6_stillHolds_40 : decode cX6_stillHolds 40 = .ok (.goto (-38), 3) := by decide +kernel
theorem dX6_stillHolds_43 : decode cX6_stillHolds 43 = .ok (.iconst 1, 1) := by decide +kernel
theorem dX6_stillHolds_44 : decode cX6_stillHolds 44 = .ok (.ireturn, 1) := by decide +kernel
theorem dX6_mostOff_0 : decode cX6_mostOff 0 = .ok (.iload_n 2, 1) := by decide +kernel
theorem dX6_mostOff_1 : decode cX6_mostOff 1 = .ok (.iconst 3, 1) := by decide +kernel
theorem dX6_mostOff_2 : decode cX6_mostOff 2 = .ok (.imul, 1) := by decide +kernel
theorem dX6_mostOff_3 : decode cX6_mostOff 3 = .ok (.istore_n 3, 1) := by decide +kernel
theorem dX6_mostOff_4 : decode cX6_mostOff 4 = .ok (.aload_n 0, 1) := by decide +kernel
theorem dX6_mostOff_5 : decode cX6_mostOff 5 = .ok (.getfield 28, 3) := by decide +kernel
theorem dX6_mostOff_8 : decode cX6_mostOff 8 = .ok (.aload_n 0, 1) := by decide +kernel
theorem dX6_mostOff_9 : decode cX6_mostOff 9 = .ok (.getfield 18, 3) := by decide +kernel
theorem dX6_mostOff_12 : decode cX6_mostOff 12 = .ok (.iload_n 3, 1) := by decide +kernel
theorem dX6_mostOff_13 : decode cX6_mostOff 13 = .ok (.iconst 0, 1) := by decide +kernel
theorem dX6_mostOff_14 : decode cX6_mostOff 14 = .ok (.iadd, 1) := by decide +kernel
theorem dX6_mostOff_15 : decode cX6_mostOff 15 = .ok (.iaload, 1) := by decide +kernel
theorem dX6_mostOff_16 : decode cX6_mostOff 16 = .ok (.aload_n 0, 1) := by decide +kernel
theorem dX6_mostOff_17 : decode cX6_mostOff 17 = .ok (.iload_n 1, 1) := by decide +kernel
theorem dX6_mostOff_18 : decode cX6_mostOff 18 = .ok (.iload_n 2, 1) := by decide +kernel
theorem dX6_mostOff_19 : decode cX6_mostOff 19 = .ok (.invokevirtual 53, 3) := by decide +kernel
theorem dX6_mostOff_22 : decode cX6_mostOff 22 = .ok (.iadd, 1) := by decide +kernel
theorem dX6_mostOff_23 : decode cX6_mostOff 23 = .ok (.aload_n 0, 1) := by decide +kernel
theorem dX6_mostOff_24 : decode cX6_mostOff 24 = .ok (.getfield 18, 3) := by decide +kernel
theorem dX6_mostOff_27 : decode cX6_mostOff 27 = .ok (.iload_n 3, 1) := by decide +kernel
theorem dX6_mostOff_28 : decode cX6_mostOff 28 = .ok (.iconst 1, 1) := by decide +kernel
theorem dX6_mostOff_29 : decode cX6_mostOff 29 = .ok (.iadd, 1) := by decide +kernel
theorem dX6_mostOff_30 : decode cX6_mostOff 30 = .ok (.iaload, 1) := by decide +kernel
theorem dX6_mostOff_31 : decode cX6_mostOff 31 = .ok (.invokevirtual 84, 3) := by decide +kernel
theorem dX6_mostOff_34 : decode cX6_mostOff 34 = .ok (.ireturn, 1) := by decide +kernel
theorem dX6_leastOff_0 : decode cX6_leastOff 0 = .ok (.iload_n 2, 1) := by decide +kernel
theorem dX6_leastOff_1 : decode cX6_leastOff 1 = .ok (.iconst 3, 1) := by decide +kernel
theorem dX6_leastOff_2 : decode cX6_leastOff 2 = .ok (.imul, 1) := by decide +kernel
theorem dX6_leastOff_3 : decode cX6_leastOff 3 = .ok (.istore_n 3, 1) := by decide +kernel
theorem dX6_leastOff_4 : decode cX6_leastOff 4 = .ok (.aload_n 0, 1) := by decide +kernel
theorem dX6_leastOff_5 : decode cX6_leastOff 5 = .ok (.getfield 28, 3) := by decide +kernel
theorem dX6_leastOff_8 : decode cX6_leastOff 8 = .ok (.aload_n 0, 1) := by decide +kernel
theorem dX6_leastOff_9 : decode cX6_leastOff 9 = .ok (.getfield 18, 3) := by decide +kernel
theorem dX6_leastOff_12 : decode cX6_leastOff 12 = .ok (.iload_n 3, 1) := by decide +kernel
theorem dX6_leastOff_13 : decode cX6_leastOff 13 = .ok (.iconst 0, 1) := by decide +kernel
theorem dX6_leastOff_14 : decode cX6_leastOff 14 = .ok (.iadd, 1) := by decide +kernel
theorem dX6_leastOff_15 : decode cX6_leastOff 15 = .ok (.iaload, 1) := by decide +kernel
theorem dX6_leastOff_16 : decode cX6_leastOff 16 = .ok (.aload_n 0, 1) := by decide +kernel
theorem dX6_leastOff_17 : decode cX6_leastOff 17 = .ok (.getfield 18, 3) := by decide +kernel
theorem dX6_leastOff_20 : decode cX6_leastOff 20 = .ok (.iload_n 3, 1) := by decide +kernel
theorem dX6_leastOff_21 : decode cX6_leastOff 21 = .ok (.iconst 1, 1) := by decide +kernel
theorem dX6_leastOff_22 : decode cX6_leastOff 22 = .ok (.iadd, 1) := by decide +kernel
theorem dX6_leastOff_23 : decode cX6_leastOff 23 = .ok (.iaload, 1) := by decide +kernel
theorem dX6_leastOff_24 : decode cX6_leastOff 24 = .ok (.aload_n 0, 1) := by decide +kernel
theorem dX6_leastOff_25 : decode cX6_leastOff 25 = .ok (.iload_n 1, 1) := by decide +kernel
theorem dX6_leastOff_26 : decode cX6_leastOff 26 = .ok (.iload_n 2, 1) := by decide +kernel
theorem dX6_leastOff_27 : decode cX6_leastOff 27 = .ok (.invokevirtual 53, 3) := by decide +kernel
theorem dX6_leastOff_30 : decode cX6_leastOff 30 = .ok (.iadd, 1) := by decide +kernel
theorem dX6_leastOff_31 : decode cX6_leastOff 31 = .ok (.invokevirtual 84, 3) := by decide +kernel
theorem dX6_leastOff_34 : decode cX6_leastOff 34 = .ok (.ireturn, 1) := by decide +kernel
theorem dX6_nearestOff_0 : decode cX6_nearestOff 0 = .ok (.iconst 0, 1) := by decide +kernel
theorem dX6_nearestOff_1 : decode cX6_nearestOff 1 = .ok (.aload_n 0, 1) := by decide +kernel
theorem dX6_nearestOff_2 : decode cX6_nearestOff 2 = .ok (.iload_n 1, 1) := by decide +kernel
theorem dX6_nearestOff_3 : decode cX6_nearestOff 3 = .ok (.iload_n 2, 1) := by decide +kernel
theorem dX6_nearestOff_4 : decode cX6_nearestOff 4 = .ok (.invokevirtual 87, 3) := by decide +kernel
theorem dX6_nearestOff_7 : decode cX6_nearestOff 7 = .ok (.aload_n 0, 1) := by decide +kernel
theorem dX6_nearestOff_8 : decode cX6_nearestOff 8 = .ok (.iload_n 1, 1) := by decide +kernel
theorem dX6_nearestOff_9 : decode cX6_nearestOff 9 = .ok (.iload_n 2, 1) := by decide +kernel
theorem dX6_nearestOff_10 : decode cX6_nearestOff 10 = .ok (.invokevirtual 90, 3) := by decide +kernel
theorem dX6_nearestOff_13 : decode cX6_nearestOff 13 = .ok (.ineg, 1) := by decide +kernel
theorem dX6_nearestOff_14 : decode cX6_nearestOff 14 = .ok (.invokestatic 93, 3) := by decide +kernel
theorem dX6_nearestOff_17 : decode cX6_nearestOff 17 = .ok (.invokestatic 93, 3) := by decide +kernel
theorem dX6_nearestOff_20 : decode cX6_nearestOff 20 = .ok (.ireturn, 1) := by decide +kernel
theorem dX6_keepRow_0 : decode cX6_keepRow 0 = .ok (.aload_n 0, 1) := by decide +kernel
theorem dX6_keepRow_1 : decode cX6_keepRow 1 = .ok (.getfield 9, 3) := by decide +kernel
theorem dX6_keepRow_4 : decode cX6_keepRow 4 = .ok (.iconst 0, 1) := by decide +kernel
theorem dX6_keepRow_5 : decode cX6_keepRow 5 = .ok (.aload_n 0, 1) := by decide +kernel
theorem dX6_keepRow_6 : decode cX6_keepRow 6 = .ok (.getfield 15, 3) := by decide +kernel
theorem dX6_keepRow_9 : decode cX6_keepRow 9 = .ok (.iconst 0, 1) := by decide +kernel
theorem dX6_keepRow_10 : decode cX6_keepRow 10 = .ok (.aload_n 0, 1) := by decide +kernel
theorem dX6_keepRow_11 : decode cX6_keepRow 11 = .ok (.getfield 28, 3) := by decide +kernel
theorem dX6_keepRow_14 : decode cX6_keepRow 14 = .ok (.getfield 47, 3) := by decide +kernel
theorem dX6_keepRow_17 : decode cX6_keepRow 17 = .ok (.invokestatic 98, 3) := by decide +kernel
theorem dX6_keepRow_20 : decode cX6_keepRow 20 = .ok (.return_, 1) := by decide +kernel
theorem dX7_init_0 : decode cX7_init 0 = .ok (.aload_n 0, 1) := by decide +kernel
theorem dX7_init_1 : decode cX7_init 1 = .ok (.invokespecial 3, 3) := by decide +kernel
theorem dX7_init_4 : decode cX7_init 4 = .ok (.aload_n 0, 1) := by decide +kernel
theorem dX7_init_5 : decode cX7_init 5 = .ok (.iconst (-1), 1) := by decide +kernel
theorem dX7_init_6 : decode cX7_init 6 = .ok (.putfield 11, 3) := by decide +kernel
theorem dX7_init_9 : decode cX7_init 9 = .ok (.aload_n 0, 1) := by decide +kernel
theorem dX7_init_10 : decode cX7_init 10 = .ok (.iconst 0, 1) := by decide +kernel
theorem dX7_init_11 : decode cX7_init 11 = .ok (.putfield 15, 3) := by decide +kernel
theorem dX7_init_14 : decode cX7_init 14 = .ok (.aload_n 0, 1) := by decide +kernel
theorem dX7_init_15 : decode cX7_init 15 = .ok (.bipush 16, 2) := by decide +kernel
theorem dX7_init_17 : decode cX7_init 17 = .ok (.newarray .long, 2) := by decide +kernel
theorem dX7_init_19 : decode cX7_init 19 = .ok (.putfield 18, 3) := by decide +kernel
theorem dX7_init_22 : decode cX7_init 22 = .ok (.return_, 1) := by decide +kernel
theorem dX7_isMissing_0 : decode cX7_isMissing 0 = .ok (.aload_n 0, 1) := by decide +kernel
theorem dX7_isMissing_1 : decode cX7_isMissing 1 = .ok (.getfield 11, 3) := by decide +kernel
theorem dX7_isMissing_4 : decode cX7_isMissing 4 = .ok (.iconst (-1), 1) := by decide +kernel
theorem dX7_isMissing_5 : decode cX7_isMissing 5 = .ok (.if_icmp .ne 7, 3) := by decide +kernel
theorem dX7_isMissing_8 : decode cX7_isMissing 8 = .ok (.iconst 1, 1) := by decide +kernel
theorem dX7_isMissing_9 : decode cX7_isMissing 9 = .ok (.goto 4, 3) := by decide +kernel
theorem dX7_isMissing_12 : decode cX7_isMissing 12 = .ok (.iconst 0, 1) := by decide +kernel
theorem dX7_isMissing_13 : decode cX7_isMissing 13 = .ok (.ireturn, 1) := by decide +kernel
theorem dX7_renew_0 : decode cX7_renew 0 = .ok (.aload_n 0, 1) := by decide +kernel
theorem dX7_renew_1 : decode cX7_renew 1 = .ok (.iload_n 1, 1) := by decide +kernel
theorem dX7_renew_2 : decode cX7_renew 2 = .ok (.putfield 11, 3) := by decide +kernel
theorem dX7_renew_5 : decode cX7_renew 5 = .ok (.aload_n 0, 1) := by decide +kernel
theorem dX7_renew_6 : decode cX7_renew 6 = .ok (.iload_n 2, 1) := by decide +kernel
theorem dX7_renew_7 : decode cX7_renew 7 = .ok (.putfield 15, 3) := by decide +kernel
theorem dX7_renew_10 : decode cX7_renew 10 = .ok (.iconst 0, 1) := by decide +kernel
theorem dX7_renew_11 : decode cX7_renew 11 = .ok (.istore_n 3, 1) := by decide +kernel
theorem dX7_renew_12 : decode cX7_renew 12 = .ok (.iload_n 3, 1) := by decide +kernel
theorem dX7_renew_13 : decode cX7_renew 13 = .ok (.bipush 16, 2) := by decide +kernel
theorem dX7_renew_15 : decode cX7_renew 15 = .ok (.if_icmp .ge 16, 3) := by decide +kernel
theorem dX7_renew_18 : decode cX7_renew 18 = .ok (.aload_n 0, 1) := by decide +kernel
theorem dX7_renew_19 : decode cX7_renew 19 = .ok (.getfield 18, 3) := by decide +kernel
theorem dX7_renew_22 : decode cX7_renew 22 = .ok (.iload_n 3, 1) := by decide +kernel
theorem dX7_renew_23 : decode cX7_renew 23 = .ok (.lconst 0, 1) := by decide +kernel
theorem dX7_renew_24 : decode cX7_renew 24 = .ok (.lastore, 1) := by decide +kernel
theorem dX7_renew_25 : decode cX7_renew 25 = .ok (.iinc 3 1, 3) := by decide +kernel
theorem dX7_renew_28 : decode cX7_renew 28 = .ok (.goto (-16), 3) := by decide +kernel
theorem dX7_renew_31 : decode cX7_renew 31 = .ok (.return_, 1) := by decide +kernel
theorem dX7_lose_0 : decode cX7_lose 0 = .ok (.aload_n 0, 1) := by decide +kernel
theorem dX7_lose_1 : decode cX7_lose 1 = .ok (.iconst (-1), 1) := by decide +kernel
theorem dX7_lose_2 : decode cX7_lose 2 = .ok (.putfield 11, 3) := by decide +kernel
theorem dX7_lose_5 : decode cX7_lose 5 = .ok (.aload_n 0, 1) := by decide +kernel
theorem dX7_lose_6 : decode cX7_lose 6 = .ok (.iconst 0, 1) := by decide +kernel
theorem dX7_lose_7 : decode cX7_lose 7 = .ok (.putfield 15, 3) := by decide +kernel
theorem dX7_lose_10 : decode cX7_lose 10 = .ok (.return_, 1) := by decide +kernel
theorem dX7_spans_0 : decode cX7_spans 0 = .ok (.iload_n 2, 1) := by decide +kernel
theorem dX7_spans_1 : decode cX7_spans 1 = .ok (.ifCond .lt 21, 3) := by decide +kernel
theorem dX7_spans_4 : decode cX7_spans 4 = .ok (.iload_n 1, 1) := by decide +kernel
theorem dX7_spans_5 : decode cX7_spans 5 = .ok (.ifCond .lt 17, 3) := by decide +kernel
theorem dX7_spans_8 : decode cX7_spans 8 = .ok (.iload_n 1, 1) := by decide +kernel
theorem dX7_spans_9 : decode cX7_spans 9 = .ok (.aload_n 0, 1) := by decide +kernel
theorem dX7_spans_10 : decode cX7_spans 10 = .ok (.getfield 15, 3) := by decide +kernel
theorem dX7_spans_13 : decode cX7_spans 13 = .ok (.iload_n 2, 1) := by decide +kernel
theorem dX7_spans_14 : decode cX7_spans 14 = .ok (.isub, 1) := by decide +kernel
theorem dX7_spans_15 : decode cX7_spans 15 = .ok (.if_icmp .gt 7, 3) := by decide +kernel
theorem dX7_spans_18 : decode cX7_spans 18 = .ok (.iconst 1, 1) := by decide +kernel
theorem dX7_spans_19 : decode cX7_spans 19 = .ok (.goto 4, 3) := by decide +kernel
theorem dX7_spans_22 : decode cX7_spans 22 = .ok (.iconst 0, 1) := by decide +kernel
theorem dX7_spans_23 : decode cX7_spans 23 = .ok (.ireturn, 1) := by decide +kernel
theorem dX7_write_0 : decode cX7_write 0 = .ok (.aload_n 0, 1) := by decide +kernel
theorem dX7_write_1 : decode cX7_write 1 = .ok (.getfield 18, 3) := by decide +kernel
theorem dX7_write_4 : decode cX7_write 4 = .ok (.iload_n 1, 1) := by decide +kernel
theorem dX7_write_5 : decode cX7_write 5 = .ok (.aload_n 0, 1) := by decide +kernel
theorem dX7_write_6 : decode cX7_write 6 = .ok (.lload_n 2, 1) := by decide +kernel
theorem dX7_write_7 : decode cX7_write 7 = .ok (.invokevirtual 22, 3) := by decide +kernel
theorem dX7_write_10 : decode cX7_write 10 = .ok (.lastore, 1) := by decide +kernel
theorem dX7_write_11 : decode cX7_write 11 = .ok (.return_, 1) := by decide +kernel
theorem dX7_lowestBits_0 : decode cX7_lowestBits 0 = .ok (.aload_n 0, 1) := by decide +kernel
theorem dX7_lowestBits_1 : decode cX7_lowestBits 1 = .ok (.getfield 11, 3) := by decide +kernel
theorem dX7_lowestBits_4 : decode cX7_lowestBits 4 = .ok (.tableswitch 42 0 2 #[28, 33, 38], 28) := by decide +kernel
theorem dX7_lowestBits_32 : decode cX7_lowestBits 32 = .ok (.lload_n 1, 1) := by decide +kernel
theorem dX7_lowestBits_33 : decode cX7_lowestBits 33 = .ok (.l2i, 1) := by decide +kernel
theorem dX7_lowestBits_34 : decode cX7_lowestBits 34 = .ok (.i2b, 1) := by decide +kernel
theorem dX7_lowestBits_35 : decode cX7_lowestBits 35 = .ok (.i2l, 1) := by decide +kernel
theorem dX7_lowestBits_36 : decode cX7_lowestBits 36 = .ok (.lreturn, 1) := by decide +kernel
theorem dX7_lowestBits_37 : decode cX7_lowestBits 37 = .ok (.lload_n 1, 1) := by decide +kernel
theorem dX7_lowestBits_38 : decode cX7_lowestBits 38 = .ok (.l2i, 1) := by decide +kernel
theorem dX7_lowestBits_39 : decode cX7_lowestBits 39 = .ok (.i2s, 1) := by decide +kernel
theorem dX7_lowestBits_40 : decode cX7_lowestBits 40 = .ok (.i2l, 1) := by decide +kernel
theorem dX7_lowestBits_41 : decode cX7_lowestBits 41 = .ok (.lreturn, 1) := by decide +kernel
theorem dX7_lowestBits_42 : decode cX7_lowestBits 42 = .ok (.lload_n 1, 1) := by decide +kernel
theorem dX7_lowestBits_43 : decode cX7_lowestBits 43 = .ok (.l2i, 1) := by decide +kernel
theorem dX7_lowestBits_44 : decode cX7_lowestBits 44 = .ok (.i2l, 1) := by decide +kernel
theorem dX7_lowestBits_45 : decode cX7_lowestBits 45 = .ok (.lreturn, 1) := by decide +kernel
theorem dX7_lowestBits_46 : decode cX7_lowestBits 46 = .ok (.lload_n 1, 1) := by decide +kernel
theorem dX7_lowestBits_47 : decode cX7_lowestBits 47 = .ok (.lreturn, 1) := by decide +kernel
theorem dX8_init_0 : decode cX8_init 0 = .ok (.aload_n 0, 1) := by decide +kernel
theorem dX8_init_1 : decode cX8_init 1 = .ok (.invokespecial 3, 3) := by decide +kernel
theorem dX8_init_4 : decode cX8_init 4 = .ok (.aload_n 0, 1) := by decide +kernel
theorem dX8_init_5 : decode cX8_init 5 = .ok (.iconst 0, 1) := by decide +kernel
theorem dX8_init_6 : decode cX8_init 6 = .ok (.putfield 9, 3) := by decide +kernel
theorem dX8_init_9 : decode cX8_init 9 = .ok (.aload_n 0, 1) := by decide +kernel
theorem dX8_init_10 : decode cX8_init 10 = .ok (.bipush 80, 2) := by decide +kernel
theorem dX8_init_12 : decode cX8_init 12 = .ok (.newarray .char, 2) := by decide +kernel
theorem dX8_init_14 : decode cX8_init 14 = .ok (.putfield 15, 3) := by decide +kernel
theorem dX8_init_17 : decode cX8_init 17 = .ok (.aload_n 0, 1) := by decide +kernel
theorem dX8_init_18 : decode cX8_init 18 = .ok (.iconst 0, 1) := by decide +kernel
theorem dX8_init_19 : decode cX8_init 19 = .ok (.putfield 19, 3) := by decide +kernel
theorem dX8_init_22 : decode cX8_init 22 = .ok (.return_, 1) := by decide +kernel
theorem dX8_add_0 : decode cX8_add 0 = .ok (.aload_n 0, 1) := by decide +kernel
theorem dX8_add_1 : decode cX8_add 1 = .ok (.getfield 15, 3) := by decide +kernel
theorem dX8_add_4 : decode cX8_add 4 = .ok (.aload_n 0, 1) := by decide +kernel
theorem dX8_add_5 : decode cX8_add 5 = .ok (.getfield 9, 3) := by decide +kernel
theorem dX8_add_8 : decode cX8_add 8 = .ok (.iload_n 1, 1) := by decide +kernel
theorem dX8_add_9 : decode cX8_add 9 = .ok (.i2c, 1) := by decide +kernel
theorem dX8_add_10 : decode cX8_add 10 = .ok (.castore, 1) := by decide +kernel
theorem dX8_add_11 : decode cX8_add 11 = .ok (.aload_n 0, 1) := by decide +kernel
theorem dX8_add_12 : decode cX8_add 12 = .ok (.dup, 1) := by decide +kernel
theorem dX8_add_13 : decode cX8_add 13 = .ok (.getfield 9, 3) := by decide +kernel
theorem dX8_add_16 : decode cX8_add 16 = .ok (.iconst 1, 1) := by decide +kernel
theorem dX8_add_17 : decode cX8_add 17 = .ok (.iadd, 1) := by decide +kernel
theorem dX8_add_18 : decode cX8_add 18 = .ok (.putfield 9, 3) := by decide +kernel
theorem dX8_add_21 : decode cX8_add 21 = .ok (.aload_n 0, 1) := by decide +kernel
theorem dX8_add_22 : decode cX8_add 22 = .ok (.getfield 9, 3) := by decide +kernel
theorem dX8_add_25 : decode cX8_add 25 = .ok (.ireturn, 1) := by decide +kernel
theorem dX8_read_0 : decode cX8_read 0 = .ok (.aload_n 0, 1) := by decide +kernel
theorem dX8_read_1 : decode cX8_read 1 = .ok (.iconst 0, 1) := by decide +kernel
theorem dX8_read_2 : decode cX8_read 2 = .ok (.putfield 19, 3) := by decide +kernel
theorem dX8_read_5 : decode cX8_read 5 = .ok (.aload_n 1, 1) := by decide +kernel
theorem dX8_read_6 : decode cX8_read 6 = .ok (.invokevirtual 22, 3) := by decide +kernel
theorem dX8_read_9 : decode cX8_read 9 = .ok (.aload_n 0, 1) := by decide +kernel
theorem dX8_read_10 : decode cX8_read 10 = .ok (.aload_n 1, 1) := by decide +kernel
theorem dX8_read_11 : decode cX8_read 11 = .ok (.invokevirtual 27, 3) := by decide +kernel
theorem dX8_read_14 : decode cX8_read 14 = .ok (.ifCond .eq 24, 3) := by decide +kernel
theorem dX8_read_17 : decode cX8_read 17 = .ok (.aload_n 0, 1) := by decide +kernel
theorem dX8_read_18 : decode cX8_read 18 = .ok (.bipush 59, 2) := by decide +kernel
theorem dX8_read_20 : decode cX8_read 20 = .ok (.invokevirtual 31, 3) := by decide +kernel
theorem dX8_read_23 : decode cX8_read 23 = .ok (.ifCond .eq 11, 3) := by decide +kernel
theorem dX8_read_26 : decode cX8_read 26 = .ok (.aload_n 0, 1) := by decide +kernel
theorem dX8_read_27 : decode cX8_read 27 = .ok (.aload_n 1, 1) := by decide +kernel
theorem dX8_read_28 : decode cX8_read 28 = .ok (.invokevirtual 35, 3) := by decide +kernel
theorem dX8_read_31 : decode cX8_read 31 = .ok (.ifCond .eq 7, 3) := by decide +kernel
theorem dX8_read_34 : decode cX8_read 34 = .ok (.iconst 1, 1) := by decide +kernel
theorem dX8_read_35 : decode cX8_read 35 = .ok (.goto 4, 3) := by decide +kernel
theorem dX8_read_38 : decode cX8_read 38 = .ok (.iconst 0, 1) := by decide +kernel
theorem dX8_read_39 : decode cX8_read 39 = .ok (.istore_n 2, 1) := by decide +kernel
theorem dX8_read_40 : decode cX8_read 40 = .ok (.iload_n 2, 1) := by decide +kernel
theorem dX8_read_41 : decode cX8_read 41 = .ok (.ifCond .eq 7, 3) := by decide +kernel
theorem dX8_read_44 : decode cX8_read 44 = .ok (.aload_n 0, 1) := by decide +kernel
theorem dX8_read_45 : decode cX8_read 45 = .ok (.invokevirtual 38, 3) := by decide +kernel
theorem dX8_read_48 : decode cX8_read 48 = .ok (.iload_n 2, 1) := by decide +kernel
theorem dX8_read_49 : decode cX8_read 49 = .ok (.ifCond .eq 21, 3) := by decide +kernel
theorem dX8_read_52 : decode cX8_read 52 = .ok (.aload_n 0, 1) := by decide +kernel
theorem dX8_read_53 : decode cX8_read 53 = .ok (.getfield 19, 3) := by decide +kernel
theorem dX8_read_56 : decode cX8_read 56 = .ok (.aload_n 0, 1) := by decide +kernel
theorem dX8_read_57 : decode cX8_read 57 = .ok (.getfield 9, 3) := by decide +kernel
theorem dX8_read_60 : decode cX8_read 60 = .ok (.if_icmp .lt 10, 3) := by decide +kernel
theorem dX8_read_63 : decode cX8_read 63 = .ok (.aload_n 1, 1) := by decide +kernel
theorem dX8_read_64 : decode cX8_read 64 = .ok (.getfield 41, 3) := by decide +kernel
theorem dX8_read_67 : decode cX8_read 67 = .ok (.goto 10, 3) := by decide +kernel
theorem dX8_read_70 : decode cX8_read 70 = .ok (.bipush (-20), 2) := by decide +kernel
theorem dX8_read_72 : decode cX8_read 72 = .ok (.aload_n 0, 1) := by decide +kernel
theorem dX8_read_73 : decode cX8_read 73 = .ok (.getfield 19, 3) := by decide +kernel
theorem dX8_read_76 : decode cX8_read 76 = .ok (.isub, 1) := by decide +kernel
theorem dX8_read_77 : decode cX8_read 77 = .ok (.ireturn, 1) := by decide +kernel
theorem dX8_readThings_0 : decode cX8_readThings 0 = .ok (.aload_n 0, 1) := by decide +kernel
theorem dX8_readThings_1 : decode cX8_readThings 1 = .ok (.aload_n 1, 1) := by decide +kernel
theorem dX8_readThings_2 : decode cX8_readThings 2 = .ok (.invokevirtual 44, 3) := by decide +kernel
theorem dX8_readThings_5 : decode cX8_readThings 5 = .ok (.istore_n 2, 1) := by decide +kernel
theorem dX8_readThings_6 : decode cX8_readThings 6 = .ok (.iconst 1, 1) := by decide +kernel
theorem dX8_readThings_7 : decode cX8_readThings 7 = .ok (.istore_n 3, 1) := by decide +kernel
theorem dX8_readThings_8 : decode cX8_readThings 8 = .ok (.iload_n 3, 1) := by decide +kernel
theorem dX8_readThings_9 : decode cX8_readThings 9 = .ok (.bipush 10, 2) := by decide +kernel
theorem dX8_readThings_11 : decode cX8_readThings 11 = .ok (.if_icmp .ge 28, 3) := by decide +kernel
theorem dX8_readThings_14 : decode cX8_readThings 14 = .ok (.iload_n 2, 1) := by decide +kernel
theorem dX8_readThings_15 : decode cX8_readThings 15 = .ok (.ifCond .eq 24, 3) := by decide +kernel
theorem dX8_readThings_18 : decode cX8_readThings 18 = .ok (.aload_n 0, 1) := by decide +kernel
theorem dX8_readThings_19 : decode cX8_readThings 19 = .ok (.bipush 44, 2) := by decide +kernel
theorem dX8_readThings_21 : decode cX8_readThings 21 = .ok (.invokevirtual 31, 3) := by decide +kernel
theorem dX8_readThings_24 : decode cX8_readThings 24 = .ok (.ifCond .eq 15, 3) := by decide +kernel
theorem dX8_readThings_27 : decode cX8_readThings 27 = .ok (.aload_n 0, 1) := by decide +kernel
theorem dX8_readThings_28 : decode cX8_readThings 28 = .ok (.aload_n 1, 1) := by decide +kernel
theorem dX8_readThings_29 : decode cX8_readThings 29 = .ok (.invokevirtual 44, 3) := by decide +kernel
theorem dX8_readThings_32 : decode cX8_readThings 32 = .ok (.istore_n 2, 1) := by decide +kernel
theorem dX8_readThings_33 : decode cX8_readThings 33 = .ok (.iinc 3 1, 3) := by decide +kernel
theorem dX8_readThings_36 : decode cX8_readThings 36 = .ok (.goto (-28), 3) := by decide +kernel
theorem dX8_readThings_39 : decode cX8_readThings 39 = .ok (.iload_n 2, 1) := by decide +kernel
theorem dX8_readThings_40 : decode cX8_readThings 40 = .ok (.ireturn, 1) := by decide +kernel
theorem dX8_readStretches_0 : decode cX8_readStretches 0 = .ok (.aload_n 0, 1) := by decide +kernel
theorem dX8_readStretches_1 : decode cX8_readStretches 1 = .ok (.aload_n 1, 1) := by decide +kernel
theorem dX8_readStretches_2 : decode cX8_readStretches 2 = .ok (.invokevirtual 47, 3) := by decide +kernel
theorem dX8_readStretches_5 : decode cX8_readStretches 5 = .ok (.istore_n 2, 1) := by decide +kernel
theorem dX8_readStretches_6 : decode cX8_readStretches 6 = .ok (.iconst 1, 1) := by decide +kernel
theorem dX8_readStretches_7 : decode cX8_readStretches 7 = .ok (.istore_n 3, 1) := by decide +kernel
theorem dX8_readStretches_8 : decode cX8_readStretches 8 = .ok (.iload_n 3, 1) := by decide +kernel
theorem dX8_readStretches_9 : decode cX8_readStretches 9 = .ok (.iconst 5, 1) := by decide +kernel
theorem dX8_readStretches_10 : decode cX8_readStretches 10 = .ok (.if_icmp .ge 28, 3) := by decide +kernel
theorem dX8_readStretches_13 : decode cX8_readStretches 13 = .ok (.iload_n 2, 1) := by decide +kernel
theorem dX8_readStretches_14 : decode cX8_readStretches 14 = .ok (.ifCond .eq 24, 3) := by decide +kernel
theorem dX8_readStretches_17 : decode cX8_readStretches 17 = .ok (.aload_n 0, 1) := by decide +kernel
theorem dX8_readStretches_18 : decode cX8_readStretches 18 = .ok (.bipush 44, 2) := by decide +kernel
theorem dX8_readStretches_20 : decode cX8_readStretches 20 = .ok (.invokevirtual 31, 3) := by decide +kernel
theorem dX8_readStretches_23 : decode cX8_readStretches 23 = .ok (.ifCond .eq 15, 3) := by decide +kernel
theorem dX8_readStretches_26 : decode cX8_readStretches 26 = .ok (.aload_n 0, 1) := by decide +kernel
theorem dX8_readStretches_27 : decode cX8_readStretches 27 = .ok (.aload_n 1, 1) := by decide +kernel
theorem dX8_readStretches_28 : decode cX8_readStretches 28 = .ok (.invokevirtual 47, 3) := by decide +kernel
theorem dX8_readStretches_31 : decode cX8_readStretches 31 = .ok (.istore_n 2, 1) := by decide +kernel
theorem dX8_readStretches_32 : decode cX8_readStretches 32 = .ok (.iinc 3 1, 3) := by decide +kernel
theorem dX8_readStretches_35 : decode cX8_readStretches 35 = .ok (.goto (-27), 3) := by decide +kernel
theorem dX8_readStretches_38 : decode cX8_readStretches 38 = .ok (.iload_n 2, 1) := by decide +kernel
theorem dX8_readStretches_39 : decode cX8_readStretches 39 = .ok (.ireturn, 1) := by decide +kernel
theorem dX8_readThing_0 : decode cX8_readThing 0 = .ok (.aload_n 0, 1) := by decide +kernel
theorem dX8_readThing_1 : decode cX8_readThing 1 = .ok (.invokevirtual 38, 3) := by decide +kernel
theorem dX8_readThing_4 : decode cX8_readThing 4 = .ok (.aload_n 0, 1) := by decide +kernel
theorem dX8_readThing_5 : decode cX8_readThing 5 = .ok (.getfield 19, 3) := by decide +kernel
theorem dX8_readThing_8 : decode cX8_readThing 8 = .ok (.aload_n 0, 1) := by decide +kernel
theorem dX8_readThing_9 : decode cX8_readThing 9 = .ok (.getfield 9, 3) := by decide +kernel
theorem dX8_readThing_12 : decode cX8_readThing 12 = .ok (.if_icmp .ge 20, 3) := by decide +kernel
theorem dX8_readThing_15 : decode cX8_readThing 15 = .ok (.ldc 50, 2) := by decide +kernel
theorem dX8_readThing_17 : decode cX8_readThing 17 = .ok (.aload_n 0, 1) := by decide +kernel
theorem dX8_readThing_18 : decode cX8_readThing 18 = .ok (.getfield 15, 3) := by decide +kernel
theorem dX8_readThing_21 : decode cX8_readThing 21 = .ok (.aload_n 0, 1) := by decide +kernel
theorem dX8_readThing_22 : decode cX8_readThing 22 = .ok (.getfield 19, 3) := by decide +kernel
theorem dX8_readThing_25 : decode cX8_readThing 25 = .ok (.caload, 1) := by decide +kernel
theorem dX8_readThing_26 : decode cX8_readThing 26 = .ok (.invokevirtual 52, 3) := by decide +kernel
theorem dX8_readThing_29 : decode cX8_readThing 29 = .ok (.goto 4, 3) := by decide +kernel
theorem dX8_readThing_32 : decode cX8_readThing 32 = .ok (.iconst (-1), 1) := by decide +kernel
theorem dX8_readThing_33 : decode cX8_readThing 33 = .ok (.istore_n 2, 1) := by decide +kernel
theorem dX8_readThing_34 : decode cX8_readThing 34 = .ok (.iload_n 2, 1) := by decide +kernel
theorem dX8_readThing_35 : decode cX8_readThing 35 = .ok (.ifCond .ge 5, 3) := by decide +kernel
theorem dX8_readThing_38 : decode cX8_readThing 38 = .ok (.iconst 0, 1) := by decide +kernel
theorem dX8_readThing_39 : decode cX8_readThing 39 = .ok (.ireturn, 1) := by decide +kernel
theorem dX8_readThing_40 : decode cX8_readThing 40 = .ok (.aload_n 0, 1) := by decide +kernel
theorem dX8_readThing_41 : decode cX8_readThing 41 = .ok (.dup, 1) := by decide +kernel
theorem dX8_readThing_42 : decode cX8_readThing 42 = .ok (.getfield 19, 3) := by decide +kernel
theorem dX8_readThing_45 : decode cX8_readThing 45 = .ok (.iconst 1, 1) := by decide +kernel
theorem dX8_readThing_46 : decode cX8_readThing 46 = .ok (.iadd, 1) := by decide +kernel
theorem dX8_readThing_47 : decode cX8_readThing 47 = .ok (.putfield 19, 3) := by decide +kernel
theorem dX8_readThing_50 : decode cX8_readThing 50 = .ok (.aload_n 0, 1) := by decide +kernel
theorem dX8_readThing_51 : decode cX8_readThing 51 = .ok (.invokevirtual 58, 3) := by decide +kernel
theorem dX8_readThing_54 : decode cX8_readThing 54 = .ok (.istore_n 3, 1) := by decide +kernel
theorem dX8_readThing_55 : decode cX8_readThing 55 = .ok (.iload_n 3, 1) := by decide +kernel
theorem dX8_readThing_56 : decode cX8_readThing 56 = .ok (.ifCond .ne 5, 3) := by decide +kernel
theorem dX8_readThing_59 : decode cX8_readThing 59 = .ok (.iconst 0, 1) := by decide +kernel
theorem dX8_readThing_60 : decode cX8_readThing 60 = .ok (.ireturn, 1) := by decide +kernel
theorem dX8_readThing_61 : decode cX8_readThing 61 = .ok (.aload_n 0, 1) := by decide +kernel
theorem dX8_readThing_62 : decode cX8_readThing 62 = .ok (.bipush 64, 2) := by decide +kernel
theorem dX8_readThing_64 : decode cX8_readThing 64 = .ok (.invokevirtual 31, 3) := by decide +kernel
theorem dX8_readThing_67 : decode cX8_readThing 67 = .ok (.ifCond .eq 10, 3) := by decide +kernel
theorem dX8_readThing_70 : decode cX8_readThing 70 = .ok (.aload_n 0, 1) := by decide +kernel
theorem dX8_readThing_71 : decode cX8_readThing 71 = .ok (.invokevirtual 62, 3) := by decide +kernel
theorem dX8_readThing_74 : decode cX8_readThing 74 = .ok (.goto 4, 3) := by decide +kernel
theorem dX8_readThing_77 : decode cX8_readThing 77 = .ok (.iconst 5, 1) := by decide +kernel
theorem dX8_readThing_78 : decode cX8_readThing 78 = .ok (.istore 4, 2) := by decide +kernel
theorem dX8_readThing_80 : decode cX8_readThing 80 = .ok (.iload 4, 2) := by decide +kernel
theorem dX8_readThing_82 : decode cX8_readThing 82 = .ok (.ifCond .ge 5, 3) := by decide +kernel
theorem dX8_readThing_85 : decode cX8_readThing 85 = .ok (.iconst 0, 1) := by decide +kernel
theorem dX8_readThing_86 : decode cX8_readThing 86 = .ok (.ireturn, 1) := by decide +kernel
theorem dX8_readThing_87 : decode cX8_readThing 87 = .ok (.aload_n 1, 1) := by decide +kernel
theorem dX8_readThing_88 : decode cX8_readThing 88 = .ok (.iload_n 2, 1) := by decide +kernel
theorem dX8_readThing_89 : decode cX8_readThing 89 = .ok (.iload_n 3, 1) := by decide +kernel
theorem dX8_readThing_90 : decode cX8_readThing 90 = .ok (.iload 4, 2) := by decide +kernel
theorem dX8_readThing_92 : decode cX8_readThing 92 = .ok (.invokevirtual 65, 3) := by decide +kernel
theorem dX8_readThing_95 : decode cX8_readThing 95 = .ok (.pop, 1) := by decide +kernel
theorem dX8_readThing_96 : decode cX8_readThing 96 = .ok (.iconst 1, 1) := by decide +kernel
theorem dX8_readThing_97 : decode cX8_readThing 97 = .ok (.ireturn, 1) := by decide +kernel
theorem dX8_readStretch_0 : decode cX8_readStretch 0 = .ok (.aload_n 0, 1) := by decide +kernel
theorem dX8_readStretch_1 : decode cX8_readStretch 1 = .ok (.invokevirtual 58, 3) := by decide +kernel
theorem dX8_readStretch_4 : decode cX8_readStretch 4 = .ok (.istore_n 2, 1) := by decide +kernel
theorem dX8_readStretch_5 : decode cX8_readStretch 5 = .ok (.iload_n 2, 1) := by decide +kernel
theorem dX8_readStretch_6 : decode cX8_readStretch 6 = .ok (.ifCond .ne 5, 3) := by decide +kernel
theorem dX8_readStretch_9 : decode cX8_readStretch 9 = .ok (.iconst 0, 1) := by decide +kernel
theorem dX8_readStretch_10 : decode cX8_readStretch 10 = .ok (.ireturn, 1) := by decide +kernel
theorem dX8_readStretch_11 : decode cX8_readStretch 11 = .ok (.aload_n 1, 1) := by decide +kernel
theorem dX8_readStretch_12 : decode cX8_readStretch 12 = .ok (.iload_n 2, 1) := by decide +kernel
theorem dX8_readStretch_13 : decode cX8_readStretch 13 = .ok (.aload_n 0, 1) := by decide +kernel
theorem dX8_readStretch_14 : decode cX8_readStretch 14 = .ok (.bipush 117, 2) := by decide +kernel
theorem dX8_readStretch_16 : decode cX8_readStretch 16 = .ok (.invokevirtual 31, 3) := by decide +kernel
theorem dX8_readStretch_19 : decode cX8_readStretch 19 = .ok (.ifCond .eq 7, 3) := by decide +kernel
theorem dX8_readStretch_22 : decode cX8_readStretch 22 = .ok (.iconst 1, 1) := by decide +kernel
theorem dX8_readStretch_23 : decode cX8_readStretch 23 = .ok (.goto 4, 3) := by decide +kernel
theorem dX8_readStretch_26 : decode cX8_readStretch 26 = .ok (.iconst 0, 1) := by decide +kernel
theorem dX8_readStretch_27 : decode cX8_readStretch 27 = .ok (.invokevirtual 69, 3) := by decide +kernel
theorem dX8_readStretch_30 : decode cX8_readStretch 30 = .ok (.pop, 1) := by decide +kernel
theorem dX8_readStretch_31 : decode cX8_readStretch 31 = .ok (.iconst 1, 1) := by decide +kernel
theorem dX8_readStretch_32 : decode cX8_readStretch 32 = .ok (.ireturn, 1) := by decide +kernel
theorem dX8_readStop_0 : decode cX8_readStop 0 = .ok (.aload_n 0, 1) := by decide +kernel
theorem dX8_readStop_1 : decode cX8_readStop 1 = .ok (.invokevirtual 38, 3) := by decide +kernel
theorem dX8_readStop_4 : decode cX8_readStop 4 = .ok (.aload_n 0, 1) := by decide +kernel
theorem dX8_readStop_5 : decode cX8_readStop 5 = .ok (.getfield 19, 3) := by decide +kernel
theorem dX8_readStop_8 : decode cX8_readStop 8 = .ok (.aload_n 0, 1) := by decide +kernel
theorem dX8_readStop_9 : decode cX8_readStop 9 = .ok (.getfield 9, 3) := by decide +kernel
theorem dX8_readStop_12 : decode cX8_readStop 12 = .ok (.if_icmp .ge 31, 3) := by decide +kernel
theorem dX8_readStop_15 : decode cX8_readStop 15 = .ok (.aload_n 0, 1) := by decide +kernel
theorem dX8_readStop_16 : decode cX8_readStop 16 = .ok (.getfield 15, 3) := by decide +kernel
theorem dX8_readStop_19 : decode cX8_readStop 19 = .ok (.aload_n 0, 1) := by decide +kernel
theorem dX8_readStop_20 : decode cX8_readStop 20 = .ok (.getfield 19, 3) := by decide +kernel
theorem dX8_readStop_23 : decode cX8_readStop 23 = .ok (.caload, 1) := by decide +kernel
theorem dX8_readStop_24 : decode cX8_readStop 24 = .ok (.bipush 48, 2) := by decide +kernel
theorem dX8_readStop_26 : decode cX8_readStop 26 = .ok (.if_icmp .lt 17, 3) := by decide +kernel
theorem dX8_readStop_29 : decode cX8_readStop 29 = .ok (.aload_n 0, 1) := by decide +kernel
theorem dX8_readStop_30 : decode cX8_readStop 30 = .ok (.getfield 15, 3) := by decide +kernel
theorem dX8_readStop_33 : decode cX8_readStop 33 = .ok (.aload_n 0, 1) := by decide +kernel
theorem dX8_readStop_34 : decode cX8_readStop 34 = .ok (.getfield 19, 3) := by decide +kernel
theorem dX8_readStop_37 : decode cX8_readStop 37 = .ok (.caload, 1) := by decide +kernel
theorem dX8_readStop_38 : decode cX8_readStop 38 = .ok (.bipush 53, 2) := by decide +kernel
theorem dX8_readStop_40 : decode cX8_readStop 40 = .ok (.if_icmp .le 5, 3) := by decide +kernel
theorem dX8_readStop_43 : decode cX8_readStop 43 = .ok (.iconst (-1), 1) := by decide +kernel
theorem dX8_readStop_44 : decode cX8_readStop 44 = .ok (.ireturn, 1) := by decide +kernel
theorem dX8_readStop_45 : decode cX8_readStop 45 = .ok (.aload_n 0, 1) := by decide +kernel
theorem dX8_readStop_46 : decode cX8_readStop 46 = .ok (.getfield 15, 3) := by decide +kernel
theorem dX8_readStop_49 : decode cX8_readStop 49 = .ok (.aload_n 0, 1) := by decide +kernel
theorem dX8_readStop_50 : decode cX8_readStop 50 = .ok (.getfield 19, 3) := by decide +kernel
theorem dX8_readStop_53 : decode cX8_readStop 53 = .ok (.caload, 1) := by decide +kernel
theorem dX8_readStop_54 : decode cX8_readStop 54 = .ok (.bipush 48, 2) := by decide +kernel
theorem dX8_readStop_56 : decode cX8_readStop 56 = .ok (.isub, 1) := by decide +kernel
theorem dX8_readStop_57 : decode cX8_readStop 57 = .ok (.istore_n 1, 1) := by decide +kernel
theorem dX8_readStop_58 : decode cX8_readStop 58 = .ok (.aload_n 0, 1) := by decide +kernel
theorem dX8_readStop_59 : decode cX8_readStop 59 = .ok (.dup, 1) := by decide +kernel
theorem dX8_readStop_60 : decode cX8_readStop 60 = .ok (.getfield 19, 3) := by decide +kernel
theorem dX8_readStop_63 : decode cX8_readStop 63 = .ok (.iconst 1, 1) := by decide +kernel
theorem dX8_readStop_64 : decode cX8_readStop 64 = .ok (.iadd, 1) := by decide +kernel
theorem dX8_readStop_65 : decode cX8_readStop 65 = .ok (.putfield 19, 3) := by decide +kernel
theorem dX8_readStop_68 : decode cX8_readStop 68 = .ok (.iload_n 1, 1) := by decide +kernel
theorem dX8_readStop_69 : decode cX8_readStop 69 = .ok (.ireturn, 1) := by decide +kernel
theorem dX8_readNumber_0 : decode cX8_readNumber 0 = .ok (.aload_n 0, 1) := by decide +kernel
theorem dX8_readNumber_1 : decode cX8_readNumber 1 = .ok (.invokevirtual 38, 3) := by decide +kernel
theorem dX8_readNumber_4 : decode cX8_readNumber 4 = .ok (.aload_n 0, 1) := by decide +kernel
theorem dX8_readNumber_5 : decode cX8_readNumber 5 = .ok (.getfield 19, 3) := by decide +kernel
theorem dX8_readNumber_8 : decode cX8_readNumber 8 = .ok (.istore_n 1, 1) := by decide +kernel
theorem dX8_readNumber_9 : decode cX8_readNumber 9 = .ok (.iconst 0, 1) := by decide +kernel
theorem dX8_readNumber_10 : decode cX8_readNumber 10 = .ok (.istore_n 2, 1) := by decide +kernel
theorem dX8_readNumber_11 : decode cX8_readNumber 11 = .ok (.aload_n 0, 1) := by decide +kernel
theorem dX8_readNumber_12 : decode cX8_readNumber 12 = .ok (.getfield 19, 3) := by decide +kernel
theorem dX8_readNumber_15 : decode cX8_readNumber 15 = .ok (.aload_n 0, 1) := by decide +kernel
theorem dX8_readNumber_16 : decode cX8_readNumber 16 = .ok (.getfield 9, 3) := by decide +kernel
theorem dX8_readNumber_19 : decode cX8_readNumber 19 = .ok (.if_icmp .ge 67, 3) := by decide +kernel
theorem dX8_readNumber_22 : decode cX8_readNumber 22 = .ok (.aload_n 0, 1) := by decide +kernel
theorem dX8_readNumber_23 : decode cX8_readNumber 23 = .ok (.getfield 15, 3) := by decide +kernel
theorem dX8_readNumber_26 : decode cX8_readNumber 26 = .ok (.aload_n 0, 1) := by decide +kernel
theorem dX8_readNumber_27 : decode cX8_readNumber 27 = .ok (.getfield 19, 3) := by decide +kernel
theorem dX8_readNumber_30 : decode cX8_readNumber 30 = .ok (.caload, 1) := by decide +kernel
theorem dX8_readNumber_31 : decode cX8_readNumber 31 = .ok (.bipush 48, 2) := by decide +kernel
theorem dX8_readNumber_33 : decode cX8_readNumber 33 = .ok (.if_icmp .lt 53, 3) := by decide +kernel
theorem dX8_readNumber_36 : decode cX8_readNumber 36 = .ok (.aload_n 0, 1) := by decide +kernel
theorem dX8_readNumber_37 : decode cX8_readNumber 37 = .ok (.getfield 15, 3) := by decide +kernel
theorem dX8_readNumber_40 : decode cX8_readNumber 40 = .ok (.aload_n 0, 1) := by decide +kernel
theorem dX8_readNumber_41 : decode cX8_readNumber 41 = .ok (.getfield 19, 3) := by decide +kernel
theorem dX8_readNumber_44 : decode cX8_readNumber 44 = .ok (.caload, 1) := by decide +kernel
theorem dX8_readNumber_45 : decode cX8_readNumber 45 = .ok (.bipush 57, 2) := by decide +kernel
theorem dX8_readNumber_47 : decode cX8_readNumber 47 = .ok (.if_icmp .gt 39, 3) := by decide +kernel
theorem dX8_readNumber_50 : decode cX8_readNumber 50 = .ok (.bipush 100, 2) := by decide +kernel
theorem dX8_readNumber_52 : decode cX8_readNumber 52 = .ok (.iload_n 2, 1) := by decide +kernel
theorem dX8_readNumber_53 : decode cX8_readNumber 53 = .ok (.bipush 10, 2) := by decide +kernel
theorem dX8_readNumber_55 : decode cX8_readNumber 55 = .ok (.imul, 1) := by decide +kernel
theorem dX8_readNumber_56 : decode cX8_readNumber 56 = .ok (.aload_n 0, 1) := by decide +kernel
theorem dX8_readNumber_57 : decode cX8_readNumber 57 = .ok (.getfield 15, 3) := by decide +kernel
theorem dX8_readNumber_60 : decode cX8_readNumber 60 = .ok (.aload_n 0, 1) := by decide +kernel
theorem dX8_readNumber_61 : decode cX8_readNumber 61 = .ok (.getfield 19, 3) := by decide +kernel
theorem dX8_readNumber_64 : decode cX8_readNumber 64 = .ok (.caload, 1) := by decide +kernel
theorem dX8_readNumber_65 : decode cX8_readNumber 65 = .ok (.iadd, 1) := by decide +kernel
theorem dX8_readNumber_66 : decode cX8_readNumber 66 = .ok (.bipush 48, 2) := by decide +kernel
theorem dX8_readNumber_68 : decode cX8_readNumber 68 = .ok (.isub, 1) := by decide +kernel
theorem dX8_readNumber_69 : decode cX8_readNumber 69 = .ok (.invokestatic 73, 3) := by decide +kernel
theorem dX8_readNumber_72 : decode cX8_readNumber 72 = .ok (.istore_n 2, 1) := by decide +kernel
theorem dX8_readNumber_73 : decode cX8_readNumber 73 = .ok (.aload_n 0, 1) := by decide +kernel
theorem dX8_readNumber_74 : decode cX8_readNumber 74 = .ok (.dup, 1) := by decide +kernel
theorem dX8_readNumber_75 : decode cX8_readNumber 75 = .ok (.getfield 19, 3) := by decide +kernel
theorem dX8_readNumber_78 : decode cX8_readNumber 78 = .ok (.iconst 1, 1) := by decide +kernel
theorem dX8_readNumber_79 : decode cX8_readNumber 79 = .ok (.iadd, 1) := by decide +kernel
theorem dX8_readNumber_80 : decode cX8_readNumber 80 = .ok (.putfield 19, 3) := by decide +kernel
theorem dX8_readNumber_83 : decode cX8_readNumber 83 = .ok (.goto (-72), 3) := by decide +kernel
theorem dX8_readNumber_86 : decode cX8_readNumber 86 = .ok (.iload_n 2, 1) := by decide +kernel
theorem dX8_readNumber_87 : decode cX8_readNumber 87 = .ok (.iconst 1, 1) := by decide +kernel
theorem dX8_readNumber_88 : decode cX8_readNumber 88 = .ok (.if_icmp .lt 13, 3) := by decide +kernel
theorem dX8_readNumber_91 : decode cX8_readNumber 91 = .ok (.aload_n 0, 1) := by decide +kernel
theorem dX8_readNumber_92 : decode cX8_readNumber 92 = .ok (.getfield 19, 3) := by decide +kernel
theorem dX8_readNumber_95 : decode cX8_readNumber 95 = .ok (.iload_n 1, 1) := by decide +kernel
theorem dX8_readNumber_96 : decode cX8_readNumber 96 = .ok (.isub, 1) := by decide +kernel
theorem dX8_readNumber_97 : decode cX8_readNumber 97 = .ok (.iconst 2, 1) := by decide +kernel
theorem dX8_readNumber_98 : decode cX8_readNumber 98 = .ok (.if_icmp .le 10, 3) := by decide +kernel
theorem dX8_readNumber_101 : decode cX8_readNumber 101 = .ok (.aload_n 0, 1) := by decide +kernel
theorem dX8_readNumber_102 : decode cX8_readNumber 102 = .ok (.iload_n 1, 1) := by decide +kernel
theorem dX8_readNumber_103 : decode cX8_readNumber 103 = .ok (.putfield 19, 3) := by decide +kernel
theorem dX8_readNumber_106 : decode cX8_readNumber 106 = .ok (.iconst 0, 1) := by decide +kernel
theorem dX8_readNumber_107 : decode cX8_readNumber 107 = .ok (.ireturn, 1) := by decide +kernel
theorem dX8_readNumber_108 : decode cX8_readNumber 108 = .ok (.iload_n 2, 1) := by decide +kernel
theorem dX8_readNumber_109 : decode cX8_readNumber 109 = .ok (.ireturn, 1) := by decide +kernel
theorem dX8_passes_0 : decode cX8_passes 0 = .ok (.aload_n 0, 1) := by decide +kernel
theorem dX8_passes_1 : decode cX8_passes 1 = .ok (.invokevirtual 38, 3) := by decide +kernel
theorem dX8_passes_4 : decode cX8_passes 4 = .ok (.aload_n 0, 1) := by decide +kernel
theorem dX8_passes_5 : decode cX8_passes 5 = .ok (.getfield 19, 3) := by decide +kernel
theorem dX8_passes_8 : decode cX8_passes 8 = .ok (.aload_n 0, 1) := by decide +kernel
theorem dX8_passes_9 : decode cX8_passes 9 = .ok (.getfield 9, 3) := by decide +kernel
theorem dX8_passes_12 : decode cX8_passes 12 = .ok (.if_icmp .ge 16, 3) := by decide +kernel
theorem dX8_passes_15 : decode cX8_passes 15 = .ok (.aload_n 0, 1) := by decide +kernel
theorem dX8_passes_16 : decode cX8_passes 16 = .ok (.getfield 15, 3) := by decide +kernel
theorem dX8_passes_19 : decode cX8_passes 19 = .ok (.aload_n 0, 1) := by decide +kernel
theorem dX8_passes_20 : decode cX8_passes 20 = .ok (.getfield 19, 3) := by decide +kernel
theorem dX8_passes_23 : decode cX8_passes 23 = .ok (.caload, 1) := by decide +kernel
theorem dX8_passes_24 : decode cX8_passes 24 = .ok (.iload_n 1, 1) := by decide +kernel
theorem dX8_passes_25 : decode cX8_passes 25 = .ok (.if_icmp .eq 5, 3) := by decide +kernel
theorem dX8_passes_28 : decode cX8_passes 28 = .ok (.iconst 0, 1) := by decide +kernel
theorem dX8_passes_29 : decode cX8_passes 29 = .ok (.ireturn, 1) := by decide +kernel
theorem dX8_passes_30 : decode cX8_passes 30 = .ok (.aload_n 0, 1) := by decide +kernel
theorem dX8_passes_31 : decode cX8_passes 31 = .ok (.dup, 1) := by decide +kernel
theorem dX8_passes_32 : decode cX8_passes 32 = .ok (.getfield 19, 3) := by decide +kernel
theorem dX8_passes_35 : decode cX8_passes 35 = .ok (.iconst 1, 1) := by decide +kernel
theorem dX8_passes_36 : decode cX8_passes 36 = .ok (.iadd, 1) := by decide +kernel
theorem dX8_passes_37 : decode cX8_passes 37 = .ok (.putfield 19, 3) := by decide +kernel
theorem dX8_passes_40 : decode cX8_passes 40 = .ok (.iconst 1, 1) := by decide +kernel
theorem dX8_passes_41 : decode cX8_passes 41 = .ok (.ireturn, 1) := by decide +kernel
theorem dX8_skipBlanks_0 : decode cX8_skipBlanks 0 = .ok (.aload_n 0, 1) := by decide +kernel
theorem dX8_skipBlanks_1 : decode cX8_skipBlanks 1 = .ok (.getfield 19, 3) := by decide +kernel
theorem dX8_skipBlanks_4 : decode cX8_skipBlanks 4 = .ok (.aload_n 0, 1) := by decide +kernel
theorem dX8_skipBlanks_5 : decode cX8_skipBlanks 5 = .ok (.getfield 9, 3) := by decide +kernel
theorem dX8_skipBlanks_8 : decode cX8_skipBlanks 8 = .ok (.if_icmp .ge 30, 3) := by decide +kernel
theorem dX8_skipBlanks_11 : decode cX8_skipBlanks 11 = .ok (.aload_n 0, 1) := by decide +kernel
theorem dX8_skipBlanks_12 : decode cX8_skipBlanks 12 = .ok (.getfield 15, 3) := by decide +kernel
theorem dX8_skipBlanks_15 : decode cX8_skipBlanks 15 = .ok (.aload_n 0, 1) := by decide +kernel
theorem dX8_skipBlanks_16 : decode cX8_skipBlanks 16 = .ok (.getfield 19, 3) := by decide +kernel
theorem dX8_skipBlanks_19 : decode cX8_skipBlanks 19 = .ok (.caload, 1) := by decide +kernel
theorem dX8_skipBlanks_20 : decode cX8_skipBlanks 20 = .ok (.bipush 32, 2) := by decide +kernel
theorem dX8_skipBlanks_22 : decode cX8_skipBlanks 22 = .ok (.if_icmp .ne 16, 3) := by decide +kernel
theorem dX8_skipBlanks_25 : decode cX8_skipBlanks 25 = .ok (.aload_n 0, 1) := by decide +kernel
theorem dX8_skipBlanks_26 : decode cX8_skipBlanks 26 = .ok (.dup, 1) := by decide +kernel
theorem dX8_skipBlanks_27 : decode cX8_skipBlanks 27 = .ok (.getfield 19, 3) := by decide +kernel
theorem dX8_skipBlanks_30 : decode cX8_skipBlanks 30 = .ok (.iconst 1, 1) := by decide +kernel
theorem dX8_skipBlanks_31 : decode cX8_skipBlanks 31 = .ok (.iadd, 1) := by decide +kernel
theorem dX8_skipBlanks_32 : decode cX8_skipBlanks 32 = .ok (.putfield 19, 3) := by decide +kernel
theorem dX8_skipBlanks_35 : decode cX8_skipBlanks 35 = .ok (.goto (-35), 3) := by decide +kernel
theorem dX8_skipBlanks_38 : decode cX8_skipBlanks 38 = .ok (.return_, 1) := by decide +kernel
