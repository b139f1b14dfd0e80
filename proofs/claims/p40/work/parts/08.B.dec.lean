theorem dX1_init_0 : decode bX1_init.2.1 0 = .ok (.aload_n 0, 1) := by decide +kernel
theorem dX1_init_1 : decode bX1_init.2.1 1 = .ok (.aload_n 1, 1) := by decide +kernel
theorem dX1_init_2 : decode bX1_init.2.1 2 = .ok (.aload_n 2, 1) := by decide +kernel
theorem dX1_init_3 : decode bX1_init.2.1 3 = .ok (.invokespecial 3, 3) := by decide +kernel
theorem dX1_init_6 : decode bX1_init.2.1 6 = .ok (.return_, 1) := by decide +kernel
theorem dX1_play_0 : decode bX1_play.2.1 0 = .ok (.aload_n 0, 1) := by decide +kernel
theorem dX1_play_1 : decode bX1_play.2.1 1 = .ok (.iload_n 1, 1) := by decide +kernel
theorem dX1_play_2 : decode bX1_play.2.1 2 = .ok (.putfield 9, 3) := by decide +kernel
theorem dX1_play_5 : decode bX1_play.2.1 5 = .ok (.aload_n 0, 1) := by decide +kernel
theorem dX1_play_6 : decode bX1_play.2.1 6 = .ok (.invokevirtual 15, 3) := by decide +kernel
theorem dX1_play_9 : decode bX1_play.2.1 9 = .ok (.return_, 1) := by decide +kernel
theorem dX1_saidAt_0 : decode bX1_saidAt.2.1 0 = .ok (.aload_n 0, 1) := by decide +kernel
theorem dX1_saidAt_1 : decode bX1_saidAt.2.1 1 = .ok (.getfield 9, 3) := by decide +kernel
theorem dX1_saidAt_4 : decode bX1_saidAt.2.1 4 = .ok (.iload_n 1, 1) := by decide +kernel
theorem dX1_saidAt_5 : decode bX1_saidAt.2.1 5 = .ok (.ishr, 1) := by decide +kernel
theorem dX1_saidAt_6 : decode bX1_saidAt.2.1 6 = .ok (.iconst 1, 1) := by decide +kernel
theorem dX1_saidAt_7 : decode bX1_saidAt.2.1 7 = .ok (.iand, 1) := by decide +kernel
theorem dX1_saidAt_8 : decode bX1_saidAt.2.1 8 = .ok (.ifCond .ne 5, 3) := by decide +kernel
theorem dX1_saidAt_11 : decode bX1_saidAt.2.1 11 = .ok (.iload_n 1, 1) := by decide +kernel
theorem dX1_saidAt_12 : decode bX1_saidAt.2.1 12 = .ok (.ireturn, 1) := by decide +kernel
theorem dX1_saidAt_13 : decode bX1_saidAt.2.1 13 = .ok (.aload_n 0, 1) := by decide +kernel
theorem dX1_saidAt_14 : decode bX1_saidAt.2.1 14 = .ok (.dup, 1) := by decide +kernel
theorem dX1_saidAt_15 : decode bX1_saidAt.2.1 15 = .ok (.getfield 9, 3) := by decide +kernel
theorem dX1_saidAt_18 : decode bX1_saidAt.2.1 18 = .ok (.iconst 1, 1) := by decide +kernel
theorem dX1_saidAt_19 : decode bX1_saidAt.2.1 19 = .ok (.iload_n 1, 1) := by decide +kernel
theorem dX1_saidAt_20 : decode bX1_saidAt.2.1 20 = .ok (.ishl, 1) := by decide +kernel
theorem dX1_saidAt_21 : decode bX1_saidAt.2.1 21 = .ok (.ixor, 1) := by decide +kernel
theorem dX1_saidAt_22 : decode bX1_saidAt.2.1 22 = .ok (.putfield 9, 3) := by decide +kernel
theorem dX1_saidAt_25 : decode bX1_saidAt.2.1 25 = .ok (.aload_n 0, 1) := by decide +kernel
theorem dX1_saidAt_26 : decode bX1_saidAt.2.1 26 = .ok (.getfield 19, 3) := by decide +kernel
theorem dX1_saidAt_29 : decode bX1_saidAt.2.1 29 = .ok (.iload_n 1, 1) := by decide +kernel
theorem dX1_saidAt_30 : decode bX1_saidAt.2.1 30 = .ok (.invokevirtual 23, 3) := by decide +kernel
theorem dX1_saidAt_33 : decode bX1_saidAt.2.1 33 = .ok (.ifCond .eq 15, 3) := by decide +kernel
theorem dX1_saidAt_36 : decode bX1_saidAt.2.1 36 = .ok (.aload_n 0, 1) := by decide +kernel
theorem dX1_saidAt_37 : decode bX1_saidAt.2.1 37 = .ok (.getfield 29, 3) := by decide +kernel
theorem dX1_saidAt_40 : decode bX1_saidAt.2.1 40 = .ok (.getfield 33, 3) := by decide +kernel
theorem dX1_saidAt_43 : decode bX1_saidAt.2.1 43 = .ok (.iload_n 1, 1) := by decide +kernel
theorem dX1_saidAt_44 : decode bX1_saidAt.2.1 44 = .ok (.iaload, 1) := by decide +kernel
theorem dX1_saidAt_45 : decode bX1_saidAt.2.1 45 = .ok (.goto 4, 3) := by decide +kernel
theorem dX1_saidAt_48 : decode bX1_saidAt.2.1 48 = .ok (.iconst (-1), 1) := by decide +kernel
theorem dX1_saidAt_49 : decode bX1_saidAt.2.1 49 = .ok (.ireturn, 1) := by decide +kernel
theorem dX1_search_0 : decode bX1_search.2.1 0 = .ok (.aload_n 0, 1) := by decide +kernel
theorem dX1_search_1 : decode bX1_search.2.1 1 = .ok (.iload_n 2, 1) := by decide +kernel
theorem dX1_search_2 : decode bX1_search.2.1 2 = .ok (.putfield 39, 3) := by decide +kernel
theorem dX1_search_5 : decode bX1_search.2.1 5 = .ok (.aload_n 0, 1) := by decide +kernel
theorem dX1_search_6 : decode bX1_search.2.1 6 = .ok (.iconst (-1), 1) := by decide +kernel
theorem dX1_search_7 : decode bX1_search.2.1 7 = .ok (.putfield 43, 3) := by decide +kernel
theorem dX1_search_10 : decode bX1_search.2.1 10 = .ok (.aload_n 0, 1) := by decide +kernel
theorem dX1_search_11 : decode bX1_search.2.1 11 = .ok (.iconst (-1), 1) := by decide +kernel
theorem dX1_search_12 : decode bX1_search.2.1 12 = .ok (.putfield 46, 3) := by decide +kernel
theorem dX1_search_15 : decode bX1_search.2.1 15 = .ok (.aload_n 0, 1) := by decide +kernel
theorem dX1_search_16 : decode bX1_search.2.1 16 = .ok (.iconst 0, 1) := by decide +kernel
theorem dX1_search_17 : decode bX1_search.2.1 17 = .ok (.iconst 0, 1) := by decide +kernel
theorem dX1_search_18 : decode bX1_search.2.1 18 = .ok (.iconst 0, 1) := by decide +kernel
theorem dX1_search_19 : decode bX1_search.2.1 19 = .ok (.iconst 0, 1) := by decide +kernel
theorem dX1_search_20 : decode bX1_search.2.1 20 = .ok (.iload_n 1, 1) := by decide +kernel
theorem dX1_search_21 : decode bX1_search.2.1 21 = .ok (.invokevirtual 49, 3) := by decide +kernel
theorem dX1_search_24 : decode bX1_search.2.1 24 = .ok (.return_, 1) := by decide +kernel
theorem dX1_explore_0 : decode bX1_explore.2.1 0 = .ok (.iload 5, 2) := by decide +kernel
theorem dX1_explore_2 : decode bX1_explore.2.1 2 = .ok (.ifCond .ne 21, 3) := by decide +kernel
theorem dX1_explore_5 : decode bX1_explore.2.1 5 = .ok (.aload_n 0, 1) := by decide +kernel
theorem dX1_explore_6 : decode bX1_explore.2.1 6 = .ok (.iload_n 2, 1) := by decide +kernel
theorem dX1_explore_7 : decode bX1_explore.2.1 7 = .ok (.aload_n 0, 1) := by decide +kernel
theorem dX1_explore_8 : decode bX1_explore.2.1 8 = .ok (.getfield 19, 3) := by decide +kernel
theorem dX1_explore_11 : decode bX1_explore.2.1 11 = .ok (.getfield 53, 3) := by decide +kernel
theorem dX1_explore_14 : decode bX1_explore.2.1 14 = .ok (.iadd, 1) := by decide +kernel
theorem dX1_explore_15 : decode bX1_explore.2.1 15 = .ok (.iload_n 1, 1) := by decide +kernel
theorem dX1_explore_16 : decode bX1_explore.2.1 16 = .ok (.isub, 1) := by decide +kernel
theorem dX1_explore_17 : decode bX1_explore.2.1 17 = .ok (.iload 4, 2) := by decide +kernel
theorem dX1_explore_19 : decode bX1_explore.2.1 19 = .ok (.invokevirtual 56, 3) := by decide +kernel
theorem dX1_explore_22 : decode bX1_explore.2.1 22 = .ok (.return_, 1) := by decide +kernel
theorem dX1_explore_23 : decode bX1_explore.2.1 23 = .ok (.iload_n 3, 1) := by decide +kernel
theorem dX1_explore_24 : decode bX1_explore.2.1 24 = .ok (.istore 6, 2) := by decide +kernel
theorem dX1_explore_26 : decode bX1_explore.2.1 26 = .ok (.iload_n 1, 1) := by decide +kernel
theorem dX1_explore_27 : decode bX1_explore.2.1 27 = .ok (.istore 7, 2) := by decide +kernel
theorem dX1_explore_29 : decode bX1_explore.2.1 29 = .ok (.iload 7, 2) := by decide +kernel
theorem dX1_explore_31 : decode bX1_explore.2.1 31 = .ok (.aload_n 0, 1) := by decide +kernel
theorem dX1_explore_32 : decode bX1_explore.2.1 32 = .ok (.getfield 19, 3) := by decide +kernel
theorem dX1_explore_35 : decode bX1_explore.2.1 35 = .ok (.getfield 53, 3) := by decide +kernel
theorem dX1_explore_38 : decode bX1_explore.2.1 38 = .ok (.if_icmp .ge 82, 3) := by decide +kernel
theorem dX1_explore_41 : decode bX1_explore.2.1 41 = .ok (.iconst 1, 1) := by decide +kernel
theorem dX1_explore_42 : decode bX1_explore.2.1 42 = .ok (.iload 7, 2) := by decide +kernel
theorem dX1_explore_44 : decode bX1_explore.2.1 44 = .ok (.ishl, 1) := by decide +kernel
theorem dX1_explore_45 : decode bX1_explore.2.1 45 = .ok (.istore 8, 2) := by decide +kernel
theorem dX1_explore_47 : decode bX1_explore.2.1 47 = .ok (.iload 6, 2) := by decide +kernel
theorem dX1_explore_49 : decode bX1_explore.2.1 49 = .ok (.iload 8, 2) := by decide +kernel
theorem dX1_explore_51 : decode bX1_explore.2.1 51 = .ok (.iand, 1) := by decide +kernel
theorem dX1_explore_52 : decode bX1_explore.2.1 52 = .ok (.ifCond .ne 55, 3) := by decide +kernel
theorem dX1_explore_55 : decode bX1_explore.2.1 55 = .ok (.aload_n 0, 1) := by decide +kernel
theorem dX1_explore_56 : decode bX1_explore.2.1 56 = .ok (.getfield 29, 3) := by decide +kernel
theorem dX1_explore_59 : decode bX1_explore.2.1 59 = .ok (.getfield 33, 3) := by decide +kernel
theorem dX1_explore_62 : decode bX1_explore.2.1 62 = .ok (.iload 7, 2) := by decide +kernel
theorem dX1_explore_64 : decode bX1_explore.2.1 64 = .ok (.iaload, 1) := by decide +kernel
theorem dX1_explore_65 : decode bX1_explore.2.1 65 = .ok (.iconst (-1), 1) := by decide +kernel
theorem dX1_explore_66 : decode bX1_explore.2.1 66 = .ok (.if_icmp .eq 41, 3) := by decide +kernel
theorem dX1_explore_69 : decode bX1_explore.2.1 69 = .ok (.aload_n 0, 1) := by decide +kernel
theorem dX1_explore_70 : decode bX1_explore.2.1 70 = .ok (.aload_n 0, 1) := by decide +kernel
theorem dX1_explore_71 : decode bX1_explore.2.1 71 = .ok (.getfield 29, 3) := by decide +kernel
theorem dX1_explore_74 : decode bX1_explore.2.1 74 = .ok (.getfield 33, 3) := by decide +kernel
theorem dX1_explore_77 : decode bX1_explore.2.1 77 = .ok (.iload 7, 2) := by decide +kernel
theorem dX1_explore_79 : decode bX1_explore.2.1 79 = .ok (.iaload, 1) := by decide +kernel
theorem dX1_explore_80 : decode bX1_explore.2.1 80 = .ok (.iconst 1, 1) := by decide +kernel
theorem dX1_explore_81 : decode bX1_explore.2.1 81 = .ok (.iadd, 1) := by decide +kernel
theorem dX1_explore_82 : decode bX1_explore.2.1 82 = .ok (.iload_n 2, 1) := by decide +kernel
theorem dX1_explore_83 : decode bX1_explore.2.1 83 = .ok (.iload 7, 2) := by decide +kernel
theorem dX1_explore_85 : decode bX1_explore.2.1 85 = .ok (.iadd, 1) := by decide +kernel
theorem dX1_explore_86 : decode bX1_explore.2.1 86 = .ok (.iload_n 1, 1) := by decide +kernel
theorem dX1_explore_87 : decode bX1_explore.2.1 87 = .ok (.isub, 1) := by decide +kernel
theorem dX1_explore_88 : decode bX1_explore.2.1 88 = .ok (.iconst 1, 1) := by decide +kernel
theorem dX1_explore_89 : decode bX1_explore.2.1 89 = .ok (.iadd, 1) := by decide +kernel
theorem dX1_explore_90 : decode bX1_explore.2.1 90 = .ok (.iload 6, 2) := by decide +kernel
theorem dX1_explore_92 : decode bX1_explore.2.1 92 = .ok (.iload 8, 2) := by decide +kernel
theorem dX1_explore_94 : decode bX1_explore.2.1 94 = .ok (.ior, 1) := by decide +kernel
theorem dX1_explore_95 : decode bX1_explore.2.1 95 = .ok (.iload 4, 2) := by decide +kernel
theorem dX1_explore_97 : decode bX1_explore.2.1 97 = .ok (.iload 8, 2) := by decide +kernel
theorem dX1_explore_99 : decode bX1_explore.2.1 99 = .ok (.ior, 1) := by decide +kernel
theorem dX1_explore_100 : decode bX1_explore.2.1 100 = .ok (.iload 5, 2) := by decide +kernel
theorem dX1_explore_102 : decode bX1_explore.2.1 102 = .ok (.iconst 1, 1) := by decide +kernel
theorem dX1_explore_103 : decode bX1_explore.2.1 103 = .ok (.isub, 1) := by decide +kernel
theorem dX1_explore_104 : decode bX1_explore.2.1 104 = .ok (.invokevirtual 49, 3) := by decide +kernel
theorem dX1_explore_107 : decode bX1_explore.2.1 107 = .ok (.iload 6, 2) := by decide +kernel
theorem dX1_explore_109 : decode bX1_explore.2.1 109 = .ok (.iload 8, 2) := by decide +kernel
theorem dX1_explore_111 : decode bX1_explore.2.1 111 = .ok (.ior, 1) := by decide +kernel
theorem dX1_explore_112 : decode bX1_explore.2.1 112 = .ok (.istore 6, 2) := by decide +kernel
theorem dX1_explore_114 : decode bX1_explore.2.1 114 = .ok (.iinc 7 1, 3) := by decide +kernel
theorem dX1_explore_117 : decode bX1_explore.2.1 117 = .ok (.goto (-88), 3) := by decide +kernel
theorem dX1_explore_120 : decode bX1_explore.2.1 120 = .ok (.aload_n 0, 1) := by decide +kernel
theorem dX1_explore_121 : decode bX1_explore.2.1 121 = .ok (.iload_n 2, 1) := by decide +kernel
theorem dX1_explore_122 : decode bX1_explore.2.1 122 = .ok (.aload_n 0, 1) := by decide +kernel
theorem dX1_explore_123 : decode bX1_explore.2.1 123 = .ok (.getfield 19, 3) := by decide +kernel
theorem dX1_explore_126 : decode bX1_explore.2.1 126 = .ok (.getfield 53, 3) := by decide +kernel
theorem dX1_explore_129 : decode bX1_explore.2.1 129 = .ok (.iadd, 1) := by decide +kernel
theorem dX1_explore_130 : decode bX1_explore.2.1 130 = .ok (.iload_n 1, 1) := by decide +kernel
theorem dX1_explore_131 : decode bX1_explore.2.1 131 = .ok (.isub, 1) := by decide +kernel
theorem dX1_explore_132 : decode bX1_explore.2.1 132 = .ok (.iload 4, 2) := by decide +kernel
theorem dX1_explore_134 : decode bX1_explore.2.1 134 = .ok (.invokevirtual 56, 3) := by decide +kernel
theorem dX1_explore_137 : decode bX1_explore.2.1 137 = .ok (.return_, 1) := by decide +kernel
theorem dX1_settle_0 : decode bX1_settle.2.1 0 = .ok (.iload_n 1, 1) := by decide +kernel
theorem dX1_settle_1 : decode bX1_settle.2.1 1 = .ok (.sipush 200, 3) := by decide +kernel
theorem dX1_settle_4 : decode bX1_settle.2.1 4 = .ok (.if_icmp .le 4, 3) := by decide +kernel
theorem dX1_settle_7 : decode bX1_settle.2.1 7 = .ok (.return_, 1) := by decide +kernel
theorem dX1_settle_8 : decode bX1_settle.2.1 8 = .ok (.aload_n 0, 1) := by decide +kernel
theorem dX1_settle_9 : decode bX1_settle.2.1 9 = .ok (.getfield 39, 3) := by decide +kernel
theorem dX1_settle_12 : decode bX1_settle.2.1 12 = .ok (.ifCond .eq 19, 3) := by decide +kernel
theorem dX1_settle_15 : decode bX1_settle.2.1 15 = .ok (.iload_n 1, 1) := by decide +kernel
theorem dX1_settle_16 : decode bX1_settle.2.1 16 = .ok (.aload_n 0, 1) := by decide +kernel
theorem dX1_settle_17 : decode bX1_settle.2.1 17 = .ok (.getfield 43, 3) := by decide +kernel
theorem dX1_settle_20 : decode bX1_settle.2.1 20 = .ok (.if_icmp .le 7, 3) := by decide +kernel
theorem dX1_settle_23 : decode bX1_settle.2.1 23 = .ok (.iconst 1, 1) := by decide +kernel
theorem dX1_settle_24 : decode bX1_settle.2.1 24 = .ok (.goto 20, 3) := by decide +kernel
theorem dX1_settle_27 : decode bX1_settle.2.1 27 = .ok (.iconst 0, 1) := by decide +kernel
theorem dX1_settle_28 : decode bX1_settle.2.1 28 = .ok (.goto 16, 3) := by decide +kernel
theorem dX1_settle_31 : decode bX1_settle.2.1 31 = .ok (.iload_n 1, 1) := by decide +kernel
theorem dX1_settle_32 : decode bX1_settle.2.1 32 = .ok (.aload_n 0, 1) := by decide +kernel
theorem dX1_settle_33 : decode bX1_settle.2.1 33 = .ok (.getfield 43, 3) := by decide +kernel
theorem dX1_settle_36 : decode bX1_settle.2.1 36 = .ok (.if_icmp .ge 7, 3) := by decide +kernel
theorem dX1_settle_39 : decode bX1_settle.2.1 39 = .ok (.iconst 1, 1) := by decide +kernel
theorem dX1_settle_40 : decode bX1_settle.2.1 40 = .ok (.goto 4, 3) := by decide +kernel
theorem dX1_settle_43 : decode bX1_settle.2.1 43 = .ok (.iconst 0, 1) := by decide +kernel
theorem dX1_settle_44 : decode bX1_settle.2.1 44 = .ok (.istore_n 3, 1) := by decide +kernel
theorem dX1_settle_45 : decode bX1_settle.2.1 45 = .ok (.aload_n 0, 1) := by decide +kernel
theorem dX1_settle_46 : decode bX1_settle.2.1 46 = .ok (.getfield 43, 3) := by decide +kernel
theorem dX1_settle_49 : decode bX1_settle.2.1 49 = .ok (.iconst (-1), 1) := by decide +kernel
theorem dX1_settle_50 : decode bX1_settle.2.1 50 = .ok (.if_icmp .eq 23, 3) := by decide +kernel
theorem dX1_settle_53 : decode bX1_settle.2.1 53 = .ok (.iload_n 3, 1) := by decide +kernel
theorem dX1_settle_54 : decode bX1_settle.2.1 54 = .ok (.ifCond .ne 19, 3) := by decide +kernel
theorem dX1_settle_57 : decode bX1_settle.2.1 57 = .ok (.iload_n 1, 1) := by decide +kernel
theorem dX1_settle_58 : decode bX1_settle.2.1 58 = .ok (.aload_n 0, 1) := by decide +kernel
theorem dX1_settle_59 : decode bX1_settle.2.1 59 = .ok (.getfield 43, 3) := by decide +kernel
theorem dX1_settle_62 : decode bX1_settle.2.1 62 = .ok (.if_icmp .ne 21, 3) := by decide +kernel
theorem dX1_settle_65 : decode bX1_settle.2.1 65 = .ok (.iload_n 2, 1) := by decide +kernel
theorem dX1_settle_66 : decode bX1_settle.2.1 66 = .ok (.aload_n 0, 1) := by decide +kernel
theorem dX1_settle_67 : decode bX1_settle.2.1 67 = .ok (.getfield 46, 3) := by decide +kernel
theorem dX1_settle_70 : decode bX1_settle.2.1 70 = .ok (.if_icmp .ge 13, 3) := by decide +kernel
theorem dX1_settle_73 : decode bX1_settle.2.1 73 = .ok (.aload_n 0, 1) := by decide +kernel
theorem dX1_settle_74 : decode bX1_settle.2.1 74 = .ok (.iload_n 1, 1) := by decide +kernel
theorem dX1_settle_75 : decode bX1_settle.2.1 75 = .ok (.putfield 43, 3) := by decide +kernel
theorem dX1_settle_78 : decode bX1_settle.2.1 78 = .ok (.aload_n 0, 1) := by decide +kernel
theorem dX1_settle_79 : decode bX1_settle.2.1 79 = .ok (.iload_n 2, 1) := by decide +kernel
theorem dX1_settle_80 : decode bX1_settle.2.1 80 = .ok (.putfield 46, 3) := by decide +kernel
theorem dX1_settle_83 : decode bX1_settle.2.1 83 = .ok (.return_, 1) := by decide +kernel
theorem dX4_init_0 : decode bX4_init.2.1 0 = .ok (.aload_n 0, 1) := by decide +kernel
theorem dX4_init_1 : decode bX4_init.2.1 1 = .ok (.invokespecial 3, 3) := by decide +kernel
theorem dX4_init_4 : decode bX4_init.2.1 4 = .ok (.aload_n 0, 1) := by decide +kernel
theorem dX4_init_5 : decode bX4_init.2.1 5 = .ok (.bipush 8, 2) := by decide +kernel
theorem dX4_init_7 : decode bX4_init.2.1 7 = .ok (.newarray .int, 2) := by decide +kernel
theorem dX4_init_9 : decode bX4_init.2.1 9 = .ok (.putfield 9, 3) := by decide +kernel
theorem dX4_init_12 : decode bX4_init.2.1 12 = .ok (.aload_n 0, 1) := by decide +kernel
theorem dX4_init_13 : decode bX4_init.2.1 13 = .ok (.bipush 8, 2) := by decide +kernel
theorem dX4_init_15 : decode bX4_init.2.1 15 = .ok (.newarray .int, 2) := by decide +kernel
theorem dX4_init_17 : decode bX4_init.2.1 17 = .ok (.putfield 15, 3) := by decide +kernel
theorem dX4_init_20 : decode bX4_init.2.1 20 = .ok (.aload_n 0, 1) := by decide +kernel
theorem dX4_init_21 : decode bX4_init.2.1 21 = .ok (.bipush 24, 2) := by decide +kernel
theorem dX4_init_23 : decode bX4_init.2.1 23 = .ok (.newarray .int, 2) := by decide +kernel
theorem dX4_init_25 : decode bX4_init.2.1 25 = .ok (.putfield 18, 3) := by decide +kernel
theorem dX4_init_28 : decode bX4_init.2.1 28 = .ok (.aload_n 0, 1) := by decide +kernel
theorem dX4_init_29 : decode bX4_init.2.1 29 = .ok (.bipush 7, 2) := by decide +kernel
theorem dX4_init_31 : decode bX4_init.2.1 31 = .ok (.bipush 25, 2) := by decide +kernel
theorem dX4_init_33 : decode bX4_init.2.1 33 = .ok (.multianewarray 21 2, 4) := by decide +kernel
theorem dX4_init_37 : decode bX4_init.2.1 37 = .ok (.putfield 23, 3) := by decide +kernel
theorem dX4_init_40 : decode bX4_init.2.1 40 = .ok (.aload_n 0, 1) := by decide +kernel
theorem dX4_init_41 : decode bX4_init.2.1 41 = .ok (.aload_n 1, 1) := by decide +kernel
theorem dX4_init_42 : decode bX4_init.2.1 42 = .ok (.putfield 26, 3) := by decide +kernel
theorem dX4_init_45 : decode bX4_init.2.1 45 = .ok (.aload_n 0, 1) := by decide +kernel
theorem dX4_init_46 : decode bX4_init.2.1 46 = .ok (.getfield 15, 3) := by decide +kernel
theorem dX4_init_49 : decode bX4_init.2.1 49 = .ok (.bipush 50, 2) := by decide +kernel
theorem dX4_init_51 : decode bX4_init.2.1 51 = .ok (.invokestatic 30, 3) := by decide +kernel
theorem dX4_init_54 : decode bX4_init.2.1 54 = .ok (.return_, 1) := by decide +kernel
theorem dX4_plan_0 : decode bX4_plan.2.1 0 = .ok (.iconst 0, 1) := by decide +kernel
theorem dX4_plan_1 : decode bX4_plan.2.1 1 = .ok (.istore_n 1, 1) := by decide +kernel
theorem dX4_plan_2 : decode bX4_plan.2.1 2 = .ok (.iload_n 1, 1) := by decide +kernel
theorem dX4_plan_3 : decode bX4_plan.2.1 3 = .ok (.aload_n 0, 1) := by decide +kernel
theorem dX4_plan_4 : decode bX4_plan.2.1 4 = .ok (.getfield 26, 3) := by decide +kernel
theorem dX4_plan_7 : decode bX4_plan.2.1 7 = .ok (.getfield 36, 3) := by decide +kernel
theorem dX4_plan_10 : decode bX4_plan.2.1 10 = .ok (.if_icmp .ge 20, 3) := by decide +kernel
theorem dX4_plan_13 : decode bX4_plan.2.1 13 = .ok (.aload_n 0, 1) := by decide +kernel
theorem dX4_plan_14 : decode bX4_plan.2.1 14 = .ok (.getfield 18, 3) := by decide +kernel
theorem dX4_plan_17 : decode bX4_plan.2.1 17 = .ok (.iload_n 1, 1) := by decide +kernel
theorem dX4_plan_18 : decode bX4_plan.2.1 18 = .ok (.aload_n 0, 1) := by decide +kernel
theorem dX4_plan_19 : decode bX4_plan.2.1 19 = .ok (.iload_n 1, 1) := by decide +kernel
theorem dX4_plan_20 : decode bX4_plan.2.1 20 = .ok (.invokevirtual 42, 3) := by decide +kernel
theorem dX4_plan_23 : decode bX4_plan.2.1 23 = .ok (.iastore, 1) := by decide +kernel
theorem dX4_plan_24 : decode bX4_plan.2.1 24 = .ok (.iinc 1 1, 3) := by decide +kernel
theorem dX4_plan_27 : decode bX4_plan.2.1 27 = .ok (.goto (-25), 3) := by decide +kernel
theorem dX4_plan_30 : decode bX4_plan.2.1 30 = .ok (.return_, 1) := by decide +kernel
theorem dX4_target_0 : decode bX4_target.2.1 0 = .ok (.aload_n 0, 1) := by decide +kernel
theorem dX4_target_1 : decode bX4_target.2.1 1 = .ok (.getfield 26, 3) := by decide +kernel
theorem dX4_target_4 : decode bX4_target.2.1 4 = .ok (.iload_n 1, 1) := by decide +kernel
theorem dX4_target_5 : decode bX4_target.2.1 5 = .ok (.invokevirtual 46, 3) := by decide +kernel
theorem dX4_target_8 : decode bX4_target.2.1 8 = .ok (.istore_n 2, 1) := by decide +kernel
theorem dX4_target_9 : decode bX4_target.2.1 9 = .ok (.aload_n 0, 1) := by decide +kernel
theorem dX4_target_10 : decode bX4_target.2.1 10 = .ok (.getfield 26, 3) := by decide +kernel
theorem dX4_target_13 : decode bX4_target.2.1 13 = .ok (.iload_n 1, 1) := by decide +kernel
theorem dX4_target_14 : decode bX4_target.2.1 14 = .ok (.invokevirtual 49, 3) := by decide +kernel
theorem dX4_target_17 : decode bX4_target.2.1 17 = .ok (.istore_n 3, 1) := by decide +kernel
theorem dX4_target_18 : decode bX4_target.2.1 18 = .ok (.aload_n 0, 1) := by decide +kernel
theorem dX4_target_19 : decode bX4_target.2.1 19 = .ok (.getfield 9, 3) := by decide +kernel
theorem dX4_target_22 : decode bX4_target.2.1 22 = .ok (.aload_n 0, 1) := by decide +kernel
theorem dX4_target_23 : decode bX4_target.2.1 23 = .ok (.getfield 26, 3) := by decide +kernel
theorem dX4_target_26 : decode bX4_target.2.1 26 = .ok (.getfield 52, 3) := by decide +kernel
theorem dX4_target_29 : decode bX4_target.2.1 29 = .ok (.iload_n 1, 1) := by decide +kernel
theorem dX4_target_30 : decode bX4_target.2.1 30 = .ok (.iaload, 1) := by decide +kernel
theorem dX4_target_31 : decode bX4_target.2.1 31 = .ok (.iaload, 1) := by decide +kernel
theorem dX4_target_32 : decode bX4_target.2.1 32 = .ok (.tableswitch 34 0 2 #[28, 30, 32], 28) := by decide +kernel
theorem dX4_target_60 : decode bX4_target.2.1 60 = .ok (.iconst (-1), 1) := by decide +kernel
theorem dX4_target_61 : decode bX4_target.2.1 61 = .ok (.ireturn, 1) := by decide +kernel
theorem dX4_target_62 : decode bX4_target.2.1 62 = .ok (.iload_n 3, 1) := by decide +kernel
theorem dX4_target_63 : decode bX4_target.2.1 63 = .ok (.ireturn, 1) := by decide +kernel
theorem dX4_target_64 : decode bX4_target.2.1 64 = .ok (.iload_n 2, 1) := by decide +kernel
theorem dX4_target_65 : decode bX4_target.2.1 65 = .ok (.ireturn, 1) := by decide +kernel
theorem dX4_target_66 : decode bX4_target.2.1 66 = .ok (.iload_n 2, 1) := by decide +kernel
theorem dX4_target_67 : decode bX4_target.2.1 67 = .ok (.iconst (-1), 1) := by decide +kernel
theorem dX4_target_68 : decode bX4_target.2.1 68 = .ok (.if_icmp .eq 8, 3) := by decide +kernel
theorem dX4_target_71 : decode bX4_target.2.1 71 = .ok (.iload_n 3, 1) := by decide +kernel
theorem dX4_target_72 : decode bX4_target.2.1 72 = .ok (.iconst (-1), 1) := by decide +kernel
theorem dX4_target_73 : decode bX4_target.2.1 73 = .ok (.if_icmp .ne 9, 3) := by decide +kernel
theorem dX4_target_76 : decode bX4_target.2.1 76 = .ok (.iload_n 2, 1) := by decide +kernel
theorem dX4_target_77 : decode bX4_target.2.1 77 = .ok (.iload_n 3, 1) := by decide +kernel
theorem dX4_target_78 : decode bX4_target.2.1 78 = .ok (.invokestatic 55, 3) := by decide +kernel
theorem dX4_target_81 : decode bX4_target.2.1 81 = .ok (.ireturn, 1) := by decide +kernel
theorem dX4_target_82 : decode bX4_target.2.1 82 = .ok (.iload_n 1, 1) := by decide +kernel
theorem dX4_target_83 : decode bX4_target.2.1 83 = .ok (.iload_n 2, 1) := by decide +kernel
theorem dX4_target_84 : decode bX4_target.2.1 84 = .ok (.isub, 1) := by decide +kernel
theorem dX4_target_85 : decode bX4_target.2.1 85 = .ok (.iload_n 3, 1) := by decide +kernel
theorem dX4_target_86 : decode bX4_target.2.1 86 = .ok (.iload_n 1, 1) := by decide +kernel
theorem dX4_target_87 : decode bX4_target.2.1 87 = .ok (.isub, 1) := by decide +kernel
theorem dX4_target_88 : decode bX4_target.2.1 88 = .ok (.if_icmp .gt 7, 3) := by decide +kernel
theorem dX4_target_91 : decode bX4_target.2.1 91 = .ok (.iload_n 2, 1) := by decide +kernel
theorem dX4_target_92 : decode bX4_target.2.1 92 = .ok (.goto 4, 3) := by decide +kernel
theorem dX4_target_95 : decode bX4_target.2.1 95 = .ok (.iload_n 3, 1) := by decide +kernel
theorem dX4_target_96 : decode bX4_target.2.1 96 = .ok (.ireturn, 1) := by decide +kernel
theorem dX4_takeOf_0 : decode bX4_takeOf.2.1 0 = .ok (.aload_n 0, 1) := by decide +kernel
theorem dX4_takeOf_1 : decode bX4_takeOf.2.1 1 = .ok (.getfield 26, 3) := by decide +kernel
theorem dX4_takeOf_4 : decode bX4_takeOf.2.1 4 = .ok (.iload_n 1, 1) := by decide +kernel
theorem dX4_takeOf_5 : decode bX4_takeOf.2.1 5 = .ok (.invokevirtual 61, 3) := by decide +kernel
theorem dX4_takeOf_8 : decode bX4_takeOf.2.1 8 = .ok (.ifCond .eq 20, 3) := by decide +kernel
theorem dX4_takeOf_11 : decode bX4_takeOf.2.1 11 = .ok (.aload_n 0, 1) := by decide +kernel
theorem dX4_takeOf_12 : decode bX4_takeOf.2.1 12 = .ok (.getfield 15, 3) := by decide +kernel
theorem dX4_takeOf_15 : decode bX4_takeOf.2.1 15 = .ok (.aload_n 0, 1) := by decide +kernel
theorem dX4_takeOf_16 : decode bX4_takeOf.2.1 16 = .ok (.getfield 26, 3) := by decide +kernel
theorem dX4_takeOf_19 : decode bX4_takeOf.2.1 19 = .ok (.getfield 52, 3) := by decide +kernel
theorem dX4_takeOf_22 : decode bX4_takeOf.2.1 22 = .ok (.iload_n 1, 1) := by decide +kernel
theorem dX4_takeOf_23 : decode bX4_takeOf.2.1 23 = .ok (.iaload, 1) := by decide +kernel
theorem dX4_takeOf_24 : decode bX4_takeOf.2.1 24 = .ok (.iaload, 1) := by decide +kernel
theorem dX4_takeOf_25 : decode bX4_takeOf.2.1 25 = .ok (.goto 4, 3) := by decide +kernel
theorem dX4_takeOf_28 : decode bX4_takeOf.2.1 28 = .ok (.iconst 0, 1) := by decide +kernel
theorem dX4_takeOf_29 : decode bX4_takeOf.2.1 29 = .ok (.ireturn, 1) := by decide +kernel
theorem dX4_whichLeapTo_0 : decode bX4_whichLeapTo.2.1 0 = .ok (.iconst 0, 1) := by decide +kernel
theorem dX4_whichLeapTo_1 : decode bX4_whichLeapTo.2.1 1 = .ok (.istore_n 2, 1) := by decide +kernel
theorem dX4_whichLeapTo_2 : decode bX4_whichLeapTo.2.1 2 = .ok (.iconst 0, 1) := by decide +kernel
theorem dX4_whichLeapTo_3 : decode bX4_whichLeapTo.2.1 3 = .ok (.istore_n 3, 1) := by decide +kernel
theorem dX4_whichLeapTo_4 : decode bX4_whichLeapTo.2.1 4 = .ok (.iload_n 3, 1) := by decide +kernel
theorem dX4_whichLeapTo_5 : decode bX4_whichLeapTo.2.1 5 = .ok (.aload_n 0, 1) := by decide +kernel
theorem dX4_whichLeapTo_6 : decode bX4_whichLeapTo.2.1 6 = .ok (.getfield 26, 3) := by decide +kernel
theorem dX4_whichLeapTo_9 : decode bX4_whichLeapTo.2.1 9 = .ok (.getfield 36, 3) := by decide +kernel
theorem dX4_whichLeapTo_12 : decode bX4_whichLeapTo.2.1 12 = .ok (.if_icmp .ge 29, 3) := by decide +kernel
theorem dX4_whichLeapTo_15 : decode bX4_whichLeapTo.2.1 15 = .ok (.iload_n 2, 1) := by decide +kernel
theorem dX4_whichLeapTo_16 : decode bX4_whichLeapTo.2.1 16 = .ok (.aload_n 0, 1) := by decide +kernel
theorem dX4_whichLeapTo_17 : decode bX4_whichLeapTo.2.1 17 = .ok (.getfield 18, 3) := by decide +kernel
theorem dX4_whichLeapTo_20 : decode bX4_whichLeapTo.2.1 20 = .ok (.iload_n 3, 1) := by decide +kernel
theorem dX4_whichLeapTo_21 : decode bX4_whichLeapTo.2.1 21 = .ok (.iaload, 1) := by decide +kernel
theorem dX4_whichLeapTo_22 : decode bX4_whichLeapTo.2.1 22 = .ok (.iload_n 1, 1) := by decide +kernel
theorem dX4_whichLeapTo_23 : decode bX4_whichLeapTo.2.1 23 = .ok (.if_icmp .ne 9, 3) := by decide +kernel
theorem dX4_whichLeapTo_26 : decode bX4_whichLeapTo.2.1 26 = .ok (.iconst 1, 1) := by decide +kernel
theorem dX4_whichLeapTo_27 : decode bX4_whichLeapTo.2.1 27 = .ok (.iload_n 3, 1) := by decide +kernel
theorem dX4_whichLeapTo_28 : decode bX4_whichLeapTo.2.1 28 = .ok (.ishl, 1) := by decide +kernel
theorem dX4_whichLeapTo_29 : decode bX4_whichLeapTo.2.1 29 = .ok (.goto 4, 3) := by decide +kernel
theorem dX4_whichLeapTo_32 : decode bX4_whichLeapTo.2.1 32 = .ok (.iconst 0, 1) := by decide +kernel
theorem dX4_whichLeapTo_33 : decode bX4_whichLeapTo.2.1 33 = .ok (.ior, 1) := by decide +kernel
theorem dX4_whichLeapTo_34 : decode bX4_whichLeapTo.2.1 34 = .ok (.istore_n 2, 1) := by decide +kernel
theorem dX4_whichLeapTo_35 : decode bX4_whichLeapTo.2.1 35 = .ok (.iinc 3 1, 3) := by decide +kernel
theorem dX4_whichLeapTo_38 : decode bX4_whichLeapTo.2.1 38 = .ok (.goto (-34), 3) := by decide +kernel
theorem dX4_whichLeapTo_41 : decode bX4_whichLeapTo.2.1 41 = .ok (.iload_n 2, 1) := by decide +kernel
theorem dX4_whichLeapTo_42 : decode bX4_whichLeapTo.2.1 42 = .ok (.ireturn, 1) := by decide +kernel
theorem dX4_rowsWith_0 : decode bX4_rowsWith.2.1 0 = .ok (.iconst 0, 1) := by decide +kernel
theorem dX4_rowsWith_1 : decode bX4_rowsWith.2.1 1 = .ok (.istore_n 2, 1) := by decide +kernel
theorem dX4_rowsWith_2 : decode bX4_rowsWith.2.1 2 = .ok (.iload_n 2, 1) := by decide +kernel
theorem dX4_rowsWith_3 : decode bX4_rowsWith.2.1 3 = .ok (.iload_n 1, 1) := by decide +kernel
theorem dX4_rowsWith_4 : decode bX4_rowsWith.2.1 4 = .ok (.if_icmp .gt 133, 3) := by decide +kernel
theorem dX4_rowsWith_7 : decode bX4_rowsWith.2.1 7 = .ok (.iload_n 2, 1) := by decide +kernel
theorem dX4_rowsWith_8 : decode bX4_rowsWith.2.1 8 = .ok (.aload_n 0, 1) := by decide +kernel
theorem dX4_rowsWith_9 : decode bX4_rowsWith.2.1 9 = .ok (.getfield 23, 3) := by decide +kernel
theorem dX4_rowsWith_12 : decode bX4_rowsWith.2.1 12 = .ok (.arraylength, 1) := by decide +kernel
theorem dX4_rowsWith_13 : decode bX4_rowsWith.2.1 13 = .ok (.if_icmp .ge 124, 3) := by decide +kernel
theorem dX4_rowsWith_16 : decode bX4_rowsWith.2.1 16 = .ok (.aload_n 0, 1) := by decide +kernel
theorem dX4_rowsWith_17 : decode bX4_rowsWith.2.1 17 = .ok (.getfield 23, 3) := by decide +kernel
theorem dX4_rowsWith_20 : decode bX4_rowsWith.2.1 20 = .ok (.iload_n 2, 1) := by decide +kernel
theorem dX4_rowsWith_21 : decode bX4_rowsWith.2.1 21 = .ok (.aaload, 1) := by decide +kernel
theorem dX4_rowsWith_22 : decode bX4_rowsWith.2.1 22 = .ok (.aload_n 0, 1) := by decide +kernel
theorem dX4_rowsWith_23 : decode bX4_rowsWith.2.1 23 = .ok (.getfield 26, 3) := by decide +kernel
theorem dX4_rowsWith_26 : decode bX4_rowsWith.2.1 26 = .ok (.getfield 36, 3) := by decide +kernel
theorem dX4_rowsWith_29 : decode bX4_rowsWith.2.1 29 = .ok (.iload_n 2, 1) := by decide +kernel
theorem dX4_rowsWith_30 : decode bX4_rowsWith.2.1 30 = .ok (.ifCond .ne 7, 3) := by decide +kernel
theorem dX4_rowsWith_33 : decode bX4_rowsWith.2.1 33 = .ok (.lconst 1, 1) := by decide +kernel
theorem dX4_rowsWith_34 : decode bX4_rowsWith.2.1 34 = .ok (.goto 4, 3) := by decide +kernel
theorem dX4_rowsWith_37 : decode bX4_rowsWith.2.1 37 = .ok (.lconst 0, 1) := by decide +kernel
theorem dX4_rowsWith_38 : decode bX4_rowsWith.2.1 38 = .ok (.lastore, 1) := by decide +kernel
theorem dX4_rowsWith_39 : decode bX4_rowsWith.2.1 39 = .ok (.aload_n 0, 1) := by decide +kernel
theorem dX4_rowsWith_40 : decode bX4_rowsWith.2.1 40 = .ok (.getfield 26, 3) := by decide +kernel
theorem dX4_rowsWith_43 : decode bX4_rowsWith.2.1 43 = .ok (.getfield 36, 3) := by decide +kernel
theorem dX4_rowsWith_46 : decode bX4_rowsWith.2.1 46 = .ok (.iconst 1, 1) := by decide +kernel
theorem dX4_rowsWith_47 : decode bX4_rowsWith.2.1 47 = .ok (.isub, 1) := by decide +kernel
theorem dX4_rowsWith_48 : decode bX4_rowsWith.2.1 48 = .ok (.istore_n 3, 1) := by decide +kernel
theorem dX4_rowsWith_49 : decode bX4_rowsWith.2.1 49 = .ok (.iload_n 3, 1) := by decide +kernel
theorem dX4_rowsWith_50 : decode bX4_rowsWith.2.1 50 = .ok (.ifCond .lt 81, 3) := by decide +kernel
theorem dX4_rowsWith_53 : decode bX4_rowsWith.2.1 53 = .ok (.iload_n 2, 1) := by decide +kernel
theorem dX4_rowsWith_54 : decode bX4_rowsWith.2.1 54 = .ok (.ifCond .le 23, 3) := by decide +kernel
theorem dX4_rowsWith_57 : decode bX4_rowsWith.2.1 57 = .ok (.aload_n 0, 1) := by decide +kernel
theorem dX4_rowsWith_58 : decode bX4_rowsWith.2.1 58 = .ok (.getfield 26, 3) := by decide +kernel
theorem dX4_rowsWith_61 : decode bX4_rowsWith.2.1 61 = .ok (.aload_n 0, 1) := by decide +kernel
theorem dX4_rowsWith_62 : decode bX4_rowsWith.2.1 62 = .ok (.getfield 18, 3) := by decide +kernel
theorem dX4_rowsWith_65 : decode bX4_rowsWith.2.1 65 = .ok (.iload_n 3, 1) := by decide +kernel
theorem dX4_rowsWith_66 : decode bX4_rowsWith.2.1 66 = .ok (.iaload, 1) := by decide +kernel
theorem dX4_rowsWith_67 : decode bX4_rowsWith.2.1 67 = .ok (.invokevirtual 61, 3) := by decide +kernel
theorem dX4_rowsWith_70 : decode bX4_rowsWith.2.1 70 = .ok (.ifCond .eq 7, 3) := by decide +kernel
theorem dX4_rowsWith_73 : decode bX4_rowsWith.2.1 73 = .ok (.iconst 1, 1) := by decide +kernel
theorem dX4_rowsWith_74 : decode bX4_rowsWith.2.1 74 = .ok (.goto 4, 3) := by decide +kernel
theorem dX4_rowsWith_77 : decode bX4_rowsWith.2.1 77 = .ok (.iconst 0, 1) := by decide +kernel
theorem dX4_rowsWith_78 : decode bX4_rowsWith.2.1 78 = .ok (.istore 4, 2) := by decide +kernel
theorem dX4_rowsWith_80 : decode bX4_rowsWith.2.1 80 = .ok (.aload_n 0, 1) := by decide +kernel
theorem dX4_rowsWith_81 : decode bX4_rowsWith.2.1 81 = .ok (.getfield 23, 3) := by decide +kernel
theorem dX4_rowsWith_84 : decode bX4_rowsWith.2.1 84 = .ok (.iload_n 2, 1) := by decide +kernel
theorem dX4_rowsWith_85 : decode bX4_rowsWith.2.1 85 = .ok (.aaload, 1) := by decide +kernel
theorem dX4_rowsWith_86 : decode bX4_rowsWith.2.1 86 = .ok (.iload_n 3, 1) := by decide +kernel
theorem dX4_rowsWith_87 : decode bX4_rowsWith.2.1 87 = .ok (.aload_n 0, 1) := by decide +kernel
theorem dX4_rowsWith_88 : decode bX4_rowsWith.2.1 88 = .ok (.getfield 23, 3) := by decide +kernel
theorem dX4_rowsWith_91 : decode bX4_rowsWith.2.1 91 = .ok (.iload_n 2, 1) := by decide +kernel
theorem dX4_rowsWith_92 : decode bX4_rowsWith.2.1 92 = .ok (.aaload, 1) := by decide +kernel
theorem dX4_rowsWith_93 : decode bX4_rowsWith.2.1 93 = .ok (.iload_n 3, 1) := by decide +kernel
theorem dX4_rowsWith_94 : decode bX4_rowsWith.2.1 94 = .ok (.iconst 1, 1) := by decide +kernel
theorem dX4_rowsWith_95 : decode bX4_rowsWith.2.1 95 = .ok (.iadd, 1) := by decide +kernel
theorem dX4_rowsWith_96 : decode bX4_rowsWith.2.1 96 = .ok (.laload, 1) := by decide +kernel
theorem dX4_rowsWith_97 : decode bX4_rowsWith.2.1 97 = .ok (.iload 4, 2) := by decide +kernel
theorem dX4_rowsWith_99 : decode bX4_rowsWith.2.1 99 = .ok (.ifCond .eq 23, 3) := by decide +kernel
theorem dX4_rowsWith_102 : decode bX4_rowsWith.2.1 102 = .ok (.aload_n 0, 1) := by decide +kernel
theorem dX4_rowsWith_103 : decode bX4_rowsWith.2.1 103 = .ok (.getfield 23, 3) := by decide +kernel
theorem dX4_rowsWith_106 : decode bX4_rowsWith.2.1 106 = .ok (.iload_n 2, 1) := by decide +kernel
theorem dX4_rowsWith_107 : decode bX4_rowsWith.2.1 107 = .ok (.iconst 1, 1) := by decide +kernel
theorem dX4_rowsWith_108 : decode bX4_rowsWith.2.1 108 = .ok (.isub, 1) := by decide +kernel
theorem dX4_rowsWith_109 : decode bX4_rowsWith.2.1 109 = .ok (.aaload, 1) := by decide +kernel
theorem dX4_rowsWith_110 : decode bX4_rowsWith.2.1 110 = .ok (.aload_n 0, 1) := by decide +kernel
theorem dX4_rowsWith_111 : decode bX4_rowsWith.2.1 111 = .ok (.getfield 18, 3) := by decide +kernel
theorem dX4_rowsWith_114 : decode bX4_rowsWith.2.1 114 = .ok (.iload_n 3, 1) := by decide +kernel
theorem dX4_rowsWith_115 : decode bX4_rowsWith.2.1 115 = .ok (.iaload, 1) := by decide +kernel
theorem dX4_rowsWith_116 : decode bX4_rowsWith.2.1 116 = .ok (.iconst 1, 1) := by decide +kernel
theorem dX4_rowsWith_117 : decode bX4_rowsWith.2.1 117 = .ok (.iadd, 1) := by decide +kernel
theorem dX4_rowsWith_118 : decode bX4_rowsWith.2.1 118 = .ok (.laload, 1) := by decide +kernel
theorem dX4_rowsWith_119 : decode bX4_rowsWith.2.1 119 = .ok (.goto 4, 3) := by decide +kernel
theorem dX4_rowsWith_122 : decode bX4_rowsWith.2.1 122 = .ok (.lconst 0, 1) := by decide +kernel
theorem dX4_rowsWith_123 : decode bX4_rowsWith.2.1 123 = .ok (.ladd, 1) := by decide +kernel
theorem dX4_rowsWith_124 : decode bX4_rowsWith.2.1 124 = .ok (.lastore, 1) := by decide +kernel
theorem dX4_rowsWith_125 : decode bX4_rowsWith.2.1 125 = .ok (.iinc 3 (-1), 3) := by decide +kernel
theorem dX4_rowsWith_128 : decode bX4_rowsWith.2.1 128 = .ok (.goto (-79), 3) := by decide +kernel
theorem dX4_rowsWith_131 : decode bX4_rowsWith.2.1 131 = .ok (.iinc 2 1, 3) := by decide +kernel
theorem dX4_rowsWith_134 : decode bX4_rowsWith.2.1 134 = .ok (.goto (-132), 3) := by decide +kernel
theorem dX4_rowsWith_137 : decode bX4_rowsWith.2.1 137 = .ok (.iload_n 1, 1) := by decide +kernel
theorem dX4_rowsWith_138 : decode bX4_rowsWith.2.1 138 = .ok (.ifCond .lt 30, 3) := by decide +kernel
theorem dX4_rowsWith_141 : decode bX4_rowsWith.2.1 141 = .ok (.iload_n 1, 1) := by decide +kernel
theorem dX4_rowsWith_142 : decode bX4_rowsWith.2.1 142 = .ok (.aload_n 0, 1) := by decide +kernel
theorem dX4_rowsWith_143 : decode bX4_rowsWith.2.1 143 = .ok (.getfield 23, 3) := by decide +kernel
theorem dX4_rowsWith_146 : decode bX4_rowsWith.2.1 146 = .ok (.arraylength, 1) := by decide +kernel
theorem dX4_rowsWith_147 : decode bX4_rowsWith.2.1 147 = .ok (.if_icmp .ge 21, 3) := by decide +kernel
theorem dX4_rowsWith_150 : decode bX4_rowsWith.2.1 150 = .ok (.ldc2_w 65, 3) := by decide +kernel
theorem dX4_rowsWith_153 : decode bX4_rowsWith.2.1 153 = .ok (.aload_n 0, 1) := by decide +kernel
theorem dX4_rowsWith_154 : decode bX4_rowsWith.2.1 154 = .ok (.getfield 23, 3) := by decide +kernel
theorem dX4_rowsWith_157 : decode bX4_rowsWith.2.1 157 = .ok (.iload_n 1, 1) := by decide +kernel
theorem dX4_rowsWith_158 : decode bX4_rowsWith.2.1 158 = .ok (.aaload, 1) := by decide +kernel
theorem dX4_rowsWith_159 : decode bX4_rowsWith.2.1 159 = .ok (.iconst 0, 1) := by decide +kernel
theorem dX4_rowsWith_160 : decode bX4_rowsWith.2.1 160 = .ok (.laload, 1) := by decide +kernel
theorem dX4_rowsWith_161 : decode bX4_rowsWith.2.1 161 = .ok (.invokestatic 67, 3) := by decide +kernel
theorem dX4_rowsWith_164 : decode bX4_rowsWith.2.1 164 = .ok (.l2i, 1) := by decide +kernel
theorem dX4_rowsWith_165 : decode bX4_rowsWith.2.1 165 = .ok (.goto 4, 3) := by decide +kernel
theorem dX4_rowsWith_168 : decode bX4_rowsWith.2.1 168 = .ok (.iconst (-1), 1) := by decide +kernel
theorem dX4_rowsWith_169 : decode bX4_rowsWith.2.1 169 = .ok (.ireturn, 1) := by decide +kernel
theorem dX5_init_0 : decode bX5_init.2.1 0 = .ok (.aload_n 0, 1) := by decide +kernel
theorem dX5_init_1 : decode bX5_init.2.1 1 = .ok (.aload_n 1, 1) := by decide +kernel
theorem dX5_init_2 : decode bX5_init.2.1 2 = .ok (.aload_n 2, 1) := by decide +kernel
theorem dX5_init_3 : decode bX5_init.2.1 3 = .ok (.invokespecial 3, 3) := by decide +kernel
theorem dX5_init_6 : decode bX5_init.2.1 6 = .ok (.aload_n 0, 1) := by decide +kernel
theorem dX5_init_7 : decode bX5_init.2.1 7 = .ok (.bipush 24, 2) := by decide +kernel
theorem dX5_init_9 : decode bX5_init.2.1 9 = .ok (.newarray .int, 2) := by decide +kernel
theorem dX5_init_11 : decode bX5_init.2.1 11 = .ok (.putfield 9, 3) := by decide +kernel
theorem dX5_init_14 : decode bX5_init.2.1 14 = .ok (.return_, 1) := by decide +kernel
theorem dX5_play_0 : decode bX5_play.2.1 0 = .ok (.aload_n 0, 1) := by decide +kernel
theorem dX5_play_1 : decode bX5_play.2.1 1 = .ok (.lload_n 1, 1) := by decide +kernel
theorem dX5_play_2 : decode bX5_play.2.1 2 = .ok (.putfield 15, 3) := by decide +kernel
theorem dX5_play_5 : decode bX5_play.2.1 5 = .ok (.aload_n 0, 1) := by decide +kernel
theorem dX5_play_6 : decode bX5_play.2.1 6 = .ok (.iload_n 3, 1) := by decide +kernel
theorem dX5_play_7 : decode bX5_play.2.1 7 = .ok (.putfield 19, 3) := by decide +kernel
theorem dX5_play_10 : decode bX5_play.2.1 10 = .ok (.aload_n 0, 1) := by decide +kernel
theorem dX5_play_11 : decode bX5_play.2.1 11 = .ok (.iconst 0, 1) := by decide +kernel
theorem dX5_play_12 : decode bX5_play.2.1 12 = .ok (.putfield 23, 3) := by decide +kernel
theorem dX5_play_15 : decode bX5_play.2.1 15 = .ok (.aload_n 0, 1) := by decide +kernel
theorem dX5_play_16 : decode bX5_play.2.1 16 = .ok (.iconst 0, 1) := by decide +kernel
theorem dX5_play_17 : decode bX5_play.2.1 17 = .ok (.putfield 26, 3) := by decide +kernel
theorem dX5_play_20 : decode bX5_play.2.1 20 = .ok (.aload_n 0, 1) := by decide +kernel
theorem dX5_play_21 : decode bX5_play.2.1 21 = .ok (.iconst 0, 1) := by decide +kernel
theorem dX5_play_22 : decode bX5_play.2.1 22 = .ok (.putfield 29, 3) := by decide +kernel
theorem dX5_play_25 : decode bX5_play.2.1 25 = .ok (.aload_n 0, 1) := by decide +kernel
theorem dX5_play_26 : decode bX5_play.2.1 26 = .ok (.getfield 9, 3) := by decide +kernel
theorem dX5_play_29 : decode bX5_play.2.1 29 = .ok (.iconst 0, 1) := by decide +kernel
theorem dX5_play_30 : decode bX5_play.2.1 30 = .ok (.invokestatic 32, 3) := by decide +kernel
theorem dX5_play_33 : decode bX5_play.2.1 33 = .ok (.aload_n 0, 1) := by decide +kernel
theorem dX5_play_34 : decode bX5_play.2.1 34 = .ok (.invokevirtual 38, 3) := by decide +kernel
theorem dX5_play_37 : decode bX5_play.2.1 37 = .ok (.return_, 1) := by decide +kernel
theorem dX5_draw_0 : decode bX5_draw.2.1 0 = .ok (.aload_n 0, 1) := by decide +kernel
theorem dX5_draw_1 : decode bX5_draw.2.1 1 = .ok (.aload_n 0, 1) := by decide +kernel
theorem dX5_draw_2 : decode bX5_draw.2.1 2 = .ok (.getfield 15, 3) := by decide +kernel
theorem dX5_draw_5 : decode bX5_draw.2.1 5 = .ok (.ldc2_w 42, 3) := by decide +kernel
theorem dX5_draw_8 : decode bX5_draw.2.1 8 = .ok (.lmul, 1) := by decide +kernel
theorem dX5_draw_9 : decode bX5_draw.2.1 9 = .ok (.ldc2_w 44, 3) := by decide +kernel
theorem dX5_draw_12 : decode bX5_draw.2.1 12 = .ok (.ladd, 1) := by decide +kernel
theorem dX5_draw_13 : decode bX5_draw.2.1 13 = .ok (.putfield 15, 3) := by decide +kernel
theorem dX5_draw_16 : decode bX5_draw.2.1 16 = .ok (.aload_n 0, 1) := by decide +kernel
theorem dX5_draw_17 : decode bX5_draw.2.1 17 = .ok (.getfield 15, 3) := by decide +kernel
theorem dX5_draw_20 : decode bX5_draw.2.1 20 = .ok (.bipush 33, 2) := by decide +kernel
theorem dX5_draw_22 : decode bX5_draw.2.1 22 = .ok (.lushr, 1) := by decide +kernel
theorem dX5_draw_23 : decode bX5_draw.2.1 23 = .ok (.ldc2_w 46, 3) := by decide +kernel
theorem dX5_draw_26 : decode bX5_draw.2.1 26 = .ok (.lrem, 1) := by decide +kernel
theorem dX5_draw_27 : decode bX5_draw.2.1 27 = .ok (.l2i, 1) := by decide +kernel
theorem dX5_draw_28 : decode bX5_draw.2.1 28 = .ok (.ireturn, 1) := by decide +kernel
theorem dX5_saidAt_0 : decode bX5_saidAt.2.1 0 = .ok (.aload_n 0, 1) := by decide +kernel
theorem dX5_saidAt_1 : decode bX5_saidAt.2.1 1 = .ok (.getfield 48, 3) := by decide +kernel
theorem dX5_saidAt_4 : decode bX5_saidAt.2.1 4 = .ok (.iload_n 1, 1) := by decide +kernel
theorem dX5_saidAt_5 : decode bX5_saidAt.2.1 5 = .ok (.invokevirtual 52, 3) := by decide +kernel
theorem dX5_saidAt_8 : decode bX5_saidAt.2.1 8 = .ok (.ifCond .ne 5, 3) := by decide +kernel
theorem dX5_saidAt_11 : decode bX5_saidAt.2.1 11 = .ok (.iconst (-1), 1) := by decide +kernel
theorem dX5_saidAt_12 : decode bX5_saidAt.2.1 12 = .ok (.ireturn, 1) := by decide +kernel
theorem dX5_saidAt_13 : decode bX5_saidAt.2.1 13 = .ok (.aload_n 0, 1) := by decide +kernel
theorem dX5_saidAt_14 : decode bX5_saidAt.2.1 14 = .ok (.getfield 19, 3) := by decide +kernel
theorem dX5_saidAt_17 : decode bX5_saidAt.2.1 17 = .ok (.iload_n 1, 1) := by decide +kernel
theorem dX5_saidAt_18 : decode bX5_saidAt.2.1 18 = .ok (.ishr, 1) := by decide +kernel
theorem dX5_saidAt_19 : decode bX5_saidAt.2.1 19 = .ok (.iconst 1, 1) := by decide +kernel
theorem dX5_saidAt_20 : decode bX5_saidAt.2.1 20 = .ok (.iand, 1) := by decide +kernel
theorem dX5_saidAt_21 : decode bX5_saidAt.2.1 21 = .ok (.ifCond .eq 7, 3) := by decide +kernel
theorem dX5_saidAt_24 : decode bX5_saidAt.2.1 24 = .ok (.iconst 1, 1) := by decide +kernel
theorem dX5_saidAt_25 : decode bX5_saidAt.2.1 25 = .ok (.goto 4, 3) := by decide +kernel
theorem dX5_saidAt_28 : decode bX5_saidAt.2.1 28 = .ok (.iconst 0, 1) := by decide +kernel
theorem dX5_saidAt_29 : decode bX5_saidAt.2.1 29 = .ok (.istore_n 2, 1) := by decide +kernel
theorem dX5_saidAt_30 : decode bX5_saidAt.2.1 30 = .ok (.aload_n 0, 1) := by decide +kernel
theorem dX5_saidAt_31 : decode bX5_saidAt.2.1 31 = .ok (.invokevirtual 58, 3) := by decide +kernel
theorem dX5_saidAt_34 : decode bX5_saidAt.2.1 34 = .ok (.aload_n 0, 1) := by decide +kernel
theorem dX5_saidAt_35 : decode bX5_saidAt.2.1 35 = .ok (.getfield 48, 3) := by decide +kernel
theorem dX5_saidAt_38 : decode bX5_saidAt.2.1 38 = .ok (.iload_n 1, 1) := by decide +kernel
theorem dX5_saidAt_39 : decode bX5_saidAt.2.1 39 = .ok (.iload_n 2, 1) := by decide +kernel
theorem dX5_saidAt_40 : decode bX5_saidAt.2.1 40 = .ok (.invokevirtual 62, 3) := by decide +kernel
theorem dX5_saidAt_43 : decode bX5_saidAt.2.1 43 = .ok (.if_icmp .lt 5, 3) := by decide +kernel
theorem dX5_saidAt_46 : decode bX5_saidAt.2.1 46 = .ok (.iload_n 1, 1) := by decide +kernel
theorem dX5_saidAt_47 : decode bX5_saidAt.2.1 47 = .ok (.ireturn, 1) := by decide +kernel
theorem dX5_saidAt_48 : decode bX5_saidAt.2.1 48 = .ok (.aload_n 0, 1) := by decide +kernel
theorem dX5_saidAt_49 : decode bX5_saidAt.2.1 49 = .ok (.dup, 1) := by decide +kernel
theorem dX5_saidAt_50 : decode bX5_saidAt.2.1 50 = .ok (.getfield 23, 3) := by decide +kernel
theorem dX5_saidAt_53 : decode bX5_saidAt.2.1 53 = .ok (.iconst 1, 1) := by decide +kernel
theorem dX5_saidAt_54 : decode bX5_saidAt.2.1 54 = .ok (.iadd, 1) := by decide +kernel
theorem dX5_saidAt_55 : decode bX5_saidAt.2.1 55 = .ok (.putfield 23, 3) := by decide +kernel
theorem dX5_saidAt_58 : decode bX5_saidAt.2.1 58 = .ok (.aload_n 0, 1) := by decide +kernel
theorem dX5_saidAt_59 : decode bX5_saidAt.2.1 59 = .ok (.getfield 9, 3) := by decide +kernel
theorem dX5_saidAt_62 : decode bX5_saidAt.2.1 62 = .ok (.iload_n 1, 1) := by decide +kernel
theorem dX5_saidAt_63 : decode bX5_saidAt.2.1 63 = .ok (.dup2, 1) := by decide +kernel
theorem dX5_saidAt_64 : decode bX5_saidAt.2.1 64 = .ok (.iaload, 1) := by decide +kernel
theorem dX5_saidAt_65 : decode bX5_saidAt.2.1 65 = .ok (.iconst 1, 1) := by decide +kernel
theorem dX5_saidAt_66 : decode bX5_saidAt.2.1 66 = .ok (.iadd, 1) := by decide +kernel
theorem dX5_saidAt_67 : decode bX5_saidAt.2.1 67 = .ok (.iastore, 1) := by decide +kernel
theorem dX5_saidAt_68 : decode bX5_saidAt.2.1 68 = .ok (.iload_n 2, 1) := by decide +kernel
theorem dX5_saidAt_69 : decode bX5_saidAt.2.1 69 = .ok (.ifCond .eq 30, 3) := by decide +kernel
theorem dX5_saidAt_72 : decode bX5_saidAt.2.1 72 = .ok (.aload_n 0, 1) := by decide +kernel
theorem dX5_saidAt_73 : decode bX5_saidAt.2.1 73 = .ok (.invokevirtual 58, 3) := by decide +kernel
theorem dX5_saidAt_76 : decode bX5_saidAt.2.1 76 = .ok (.aload_n 0, 1) := by decide +kernel
theorem dX5_saidAt_77 : decode bX5_saidAt.2.1 77 = .ok (.getfield 66, 3) := by decide +kernel
theorem dX5_saidAt_80 : decode bX5_saidAt.2.1 80 = .ok (.iload_n 1, 1) := by decide +kernel
theorem dX5_saidAt_81 : decode bX5_saidAt.2.1 81 = .ok (.invokevirtual 70, 3) := by decide +kernel
theorem dX5_saidAt_84 : decode bX5_saidAt.2.1 84 = .ok (.if_icmp .ge 15, 3) := by decide +kernel
theorem dX5_saidAt_87 : decode bX5_saidAt.2.1 87 = .ok (.aload_n 0, 1) := by decide +kernel
theorem dX5_saidAt_88 : decode bX5_saidAt.2.1 88 = .ok (.dup, 1) := by decide +kernel
theorem dX5_saidAt_89 : decode bX5_saidAt.2.1 89 = .ok (.getfield 26, 3) := by decide +kernel
theorem dX5_saidAt_92 : decode bX5_saidAt.2.1 92 = .ok (.iconst 1, 1) := by decide +kernel
theorem dX5_saidAt_93 : decode bX5_saidAt.2.1 93 = .ok (.iadd, 1) := by decide +kernel
theorem dX5_saidAt_94 : decode bX5_saidAt.2.1 94 = .ok (.putfield 26, 3) := by decide +kernel
theorem dX5_saidAt_97 : decode bX5_saidAt.2.1 97 = .ok (.iload_n 1, 1) := by decide +kernel
theorem dX5_saidAt_98 : decode bX5_saidAt.2.1 98 = .ok (.ireturn, 1) := by decide +kernel
theorem dX5_saidAt_99 : decode bX5_saidAt.2.1 99 = .ok (.aload_n 0, 1) := by decide +kernel
theorem dX5_saidAt_100 : decode bX5_saidAt.2.1 100 = .ok (.getfield 66, 3) := by decide +kernel
theorem dX5_saidAt_103 : decode bX5_saidAt.2.1 103 = .ok (.getfield 76, 3) := by decide +kernel
theorem dX5_saidAt_106 : decode bX5_saidAt.2.1 106 = .ok (.iload_n 1, 1) := by decide +kernel
theorem dX5_saidAt_107 : decode bX5_saidAt.2.1 107 = .ok (.iaload, 1) := by decide +kernel
theorem dX5_saidAt_108 : decode bX5_saidAt.2.1 108 = .ok (.istore_n 3, 1) := by decide +kernel
theorem dX5_saidAt_109 : decode bX5_saidAt.2.1 109 = .ok (.aload_n 0, 1) := by decide +kernel
theorem dX5_saidAt_110 : decode bX5_saidAt.2.1 110 = .ok (.dup, 1) := by decide +kernel
theorem dX5_saidAt_111 : decode bX5_saidAt.2.1 111 = .ok (.getfield 29, 3) := by decide +kernel
theorem dX5_saidAt_114 : decode bX5_saidAt.2.1 114 = .ok (.iload_n 3, 1) := by decide +kernel
theorem dX5_saidAt_115 : decode bX5_saidAt.2.1 115 = .ok (.iconst (-1), 1) := by decide +kernel
theorem dX5_saidAt_116 : decode bX5_saidAt.2.1 116 = .ok (.if_icmp .ne 7, 3) := by decide +kernel
theorem dX5_saidAt_119 : decode bX5_saidAt.2.1 119 = .ok (.iconst 0, 1) := by decide +kernel
theorem dX5_saidAt_120 : decode bX5_saidAt.2.1 120 = .ok (.goto 4, 3) := by decide +kernel
theorem dX5_saidAt_123 : decode bX5_saidAt.2.1 123 = .ok (.iconst 1, 1) := by decide +kernel
theorem dX5_saidAt_124 : decode bX5_saidAt.2.1 124 = .ok (.iadd, 1) := by decide +kernel
theorem dX5_saidAt_125 : decode bX5_saidAt.2.1 125 = .ok (.putfield 29, 3) := by decide +kernel
theorem dX5_saidAt_128 : decode bX5_saidAt.2.1 128 = .ok (.iload_n 3, 1) := by decide +kernel
theorem dX5_saidAt_129 : decode bX5_saidAt.2.1 129 = .ok (.ireturn, 1) := by decide +kernel
theorem dX5_secondsInAll_0 : decode bX5_secondsInAll.2.1 0 = .ok (.aload_n 0, 1) := by decide +kernel
theorem dX5_secondsInAll_1 : decode bX5_secondsInAll.2.1 1 = .ok (.getfield 79, 3) := by decide +kernel
theorem dX5_secondsInAll_4 : decode bX5_secondsInAll.2.1 4 = .ok (.iconst 3, 1) := by decide +kernel
theorem dX5_secondsInAll_5 : decode bX5_secondsInAll.2.1 5 = .ok (.aload_n 0, 1) := by decide +kernel
theorem dX5_secondsInAll_6 : decode bX5_secondsInAll.2.1 6 = .ok (.getfield 26, 3) := by decide +kernel
theorem dX5_secondsInAll_9 : decode bX5_secondsInAll.2.1 9 = .ok (.imul, 1) := by decide +kernel
theorem dX5_secondsInAll_10 : decode bX5_secondsInAll.2.1 10 = .ok (.iadd, 1) := by decide +kernel
theorem dX5_secondsInAll_11 : decode bX5_secondsInAll.2.1 11 = .ok (.ireturn, 1) := by decide +kernel
theorem dX6_init_0 : decode bX6_init.2.1 0 = .ok (.aload_n 0, 1) := by decide +kernel
theorem dX6_init_1 : decode bX6_init.2.1 1 = .ok (.invokespecial 3, 3) := by decide +kernel
theorem dX6_init_4 : decode bX6_init.2.1 4 = .ok (.aload_n 0, 1) := by decide +kernel
theorem dX6_init_5 : decode bX6_init.2.1 5 = .ok (.bipush 24, 2) := by decide +kernel
theorem dX6_init_7 : decode bX6_init.2.1 7 = .ok (.newarray .int, 2) := by decide +kernel
theorem dX6_init_9 : decode bX6_init.2.1 9 = .ok (.putfield 9, 3) := by decide +kernel
theorem dX6_init_12 : decode bX6_init.2.1 12 = .ok (.aload_n 0, 1) := by decide +kernel
theorem dX6_init_13 : decode bX6_init.2.1 13 = .ok (.bipush 24, 2) := by decide +kernel
theorem dX6_init_15 : decode bX6_init.2.1 15 = .ok (.newarray .int, 2) := by decide +kernel
theorem dX6_init_17 : decode bX6_init.2.1 17 = .ok (.putfield 15, 3) := by decide +kernel
theorem dX6_init_20 : decode bX6_init.2.1 20 = .ok (.return_, 1) := by decide +kernel
theorem dX6_clear_0 : decode bX6_clear.2.1 0 = .ok (.aload_n 0, 1) := by decide +kernel
theorem dX6_clear_1 : decode bX6_clear.2.1 1 = .ok (.iconst 0, 1) := by decide +kernel
theorem dX6_clear_2 : decode bX6_clear.2.1 2 = .ok (.putfield 18, 3) := by decide +kernel
theorem dX6_clear_5 : decode bX6_clear.2.1 5 = .ok (.aload_n 0, 1) := by decide +kernel
theorem dX6_clear_6 : decode bX6_clear.2.1 6 = .ok (.iconst 0, 1) := by decide +kernel
theorem dX6_clear_7 : decode bX6_clear.2.1 7 = .ok (.putfield 22, 3) := by decide +kernel
theorem dX6_clear_10 : decode bX6_clear.2.1 10 = .ok (.aload_n 0, 1) := by decide +kernel
theorem dX6_clear_11 : decode bX6_clear.2.1 11 = .ok (.iconst 0, 1) := by decide +kernel
theorem dX6_clear_12 : decode bX6_clear.2.1 12 = .ok (.putfield 25, 3) := by decide +kernel
theorem dX6_clear_15 : decode bX6_clear.2.1 15 = .ok (.aload_n 0, 1) := by decide +kernel
theorem dX6_clear_16 : decode bX6_clear.2.1 16 = .ok (.iconst 0, 1) := by decide +kernel
theorem dX6_clear_17 : decode bX6_clear.2.1 17 = .ok (.putfield 28, 3) := by decide +kernel
theorem dX6_clear_20 : decode bX6_clear.2.1 20 = .ok (.aload_n 0, 1) := by decide +kernel
theorem dX6_clear_21 : decode bX6_clear.2.1 21 = .ok (.getfield 9, 3) := by decide +kernel
theorem dX6_clear_24 : decode bX6_clear.2.1 24 = .ok (.iconst 0, 1) := by decide +kernel
theorem dX6_clear_25 : decode bX6_clear.2.1 25 = .ok (.invokestatic 32, 3) := by decide +kernel
theorem dX6_clear_28 : decode bX6_clear.2.1 28 = .ok (.return_, 1) := by decide +kernel
theorem dX6_isMarked_0 : decode bX6_isMarked.2.1 0 = .ok (.aload_n 0, 1) := by decide +kernel
theorem dX6_isMarked_1 : decode bX6_isMarked.2.1 1 = .ok (.getfield 18, 3) := by decide +kernel
theorem dX6_isMarked_4 : decode bX6_isMarked.2.1 4 = .ok (.iload_n 1, 1) := by decide +kernel
theorem dX6_isMarked_5 : decode bX6_isMarked.2.1 5 = .ok (.ishr, 1) := by decide +kernel
theorem dX6_isMarked_6 : decode bX6_isMarked.2.1 6 = .ok (.iconst 1, 1) := by decide +kernel
theorem dX6_isMarked_7 : decode bX6_isMarked.2.1 7 = .ok (.iand, 1) := by decide +kernel
theorem dX6_isMarked_8 : decode bX6_isMarked.2.1 8 = .ok (.ifCond .eq 7, 3) := by decide +kernel
theorem dX6_isMarked_11 : decode bX6_isMarked.2.1 11 = .ok (.iconst 1, 1) := by decide +kernel
theorem dX6_isMarked_12 : decode bX6_isMarked.2.1 12 = .ok (.goto 4, 3) := by decide +kernel
theorem dX6_isMarked_15 : decode bX6_isMarked.2.1 15 = .ok (.iconst 0, 1) := by decide +kernel
theorem dX6_isMarked_16 : decode bX6_isMarked.2.1 16 = .ok (.ireturn, 1) := by decide +kernel
theorem dX6_keep_0 : decode bX6_keep.2.1 0 = .ok (.aload_n 0, 1) := by decide +kernel
theorem dX6_keep_1 : decode bX6_keep.2.1 1 = .ok (.dup, 1) := by decide +kernel
theorem dX6_keep_2 : decode bX6_keep.2.1 2 = .ok (.getfield 25, 3) := by decide +kernel
theorem dX6_keep_5 : decode bX6_keep.2.1 5 = .ok (.iconst 1, 1) := by decide +kernel
theorem dX6_keep_6 : decode bX6_keep.2.1 6 = .ok (.iadd, 1) := by decide +kernel
theorem dX6_keep_7 : decode bX6_keep.2.1 7 = .ok (.putfield 25, 3) := by decide +kernel
theorem dX6_keep_10 : decode bX6_keep.2.1 10 = .ok (.iconst 0, 1) := by decide +kernel
theorem dX6_keep_11 : decode bX6_keep.2.1 11 = .ok (.istore_n 2, 1) := by decide +kernel
theorem dX6_keep_12 : decode bX6_keep.2.1 12 = .ok (.iload_n 2, 1) := by decide +kernel
theorem dX6_keep_13 : decode bX6_keep.2.1 13 = .ok (.aload_n 0, 1) := by decide +kernel
theorem dX6_keep_14 : decode bX6_keep.2.1 14 = .ok (.getfield 9, 3) := by decide +kernel
theorem dX6_keep_17 : decode bX6_keep.2.1 17 = .ok (.arraylength, 1) := by decide +kernel
theorem dX6_keep_18 : decode bX6_keep.2.1 18 = .ok (.if_icmp .ge 24, 3) := by decide +kernel
theorem dX6_keep_21 : decode bX6_keep.2.1 21 = .ok (.aload_n 0, 1) := by decide +kernel
theorem dX6_keep_22 : decode bX6_keep.2.1 22 = .ok (.getfield 9, 3) := by decide +kernel
theorem dX6_keep_25 : decode bX6_keep.2.1 25 = .ok (.iload_n 2, 1) := by decide +kernel
theorem dX6_keep_26 : decode bX6_keep.2.1 26 = .ok (.dup2, 1) := by decide +kernel
theorem dX6_keep_27 : decode bX6_keep.2.1 27 = .ok (.iaload, 1) := by decide +kernel
theorem dX6_keep_28 : decode bX6_keep.2.1 28 = .ok (.aload_n 1, 1) := by decide +kernel
theorem dX6_keep_29 : decode bX6_keep.2.1 29 = .ok (.getfield 38, 3) := by decide +kernel
theorem dX6_keep_32 : decode bX6_keep.2.1 32 = .ok (.iload_n 2, 1) := by decide +kernel
theorem dX6_keep_33 : decode bX6_keep.2.1 33 = .ok (.iaload, 1) := by decide +kernel
theorem dX6_keep_34 : decode bX6_keep.2.1 34 = .ok (.iadd, 1) := by decide +kernel
theorem dX6_keep_35 : decode bX6_keep.2.1 35 = .ok (.iastore, 1) := by decide +kernel
theorem dX6_keep_36 : decode bX6_keep.2.1 36 = .ok (.iinc 2 1, 3) := by decide +kernel
theorem dX6_keep_39 : decode bX6_keep.2.1 39 = .ok (.goto (-27), 3) := by decide +kernel
theorem dX6_keep_42 : decode bX6_keep.2.1 42 = .ok (.return_, 1) := by decide +kernel
theorem dX6_markMostLost_0 : decode bX6_markMostLost.2.1 0 = .ok (.aload_n 0, 1) := by decide +kernel
theorem dX6_markMostLost_1 : decode bX6_markMostLost.2.1 1 = .ok (.iconst 0, 1) := by decide +kernel
theorem dX6_markMostLost_2 : decode bX6_markMostLost.2.1 2 = .ok (.putfield 18, 3) := by decide +kernel
theorem dX6_markMostLost_5 : decode bX6_markMostLost.2.1 5 = .ok (.iconst 0, 1) := by decide +kernel
theorem dX6_markMostLost_6 : decode bX6_markMostLost.2.1 6 = .ok (.istore_n 2, 1) := by decide +kernel
theorem dX6_markMostLost_7 : decode bX6_markMostLost.2.1 7 = .ok (.iload_n 2, 1) := by decide +kernel
theorem dX6_markMostLost_8 : decode bX6_markMostLost.2.1 8 = .ok (.iload_n 1, 1) := by decide +kernel
theorem dX6_markMostLost_9 : decode bX6_markMostLost.2.1 9 = .ok (.if_icmp .ge 32, 3) := by decide +kernel
theorem dX6_markMostLost_12 : decode bX6_markMostLost.2.1 12 = .ok (.aload_n 0, 1) := by decide +kernel
theorem dX6_markMostLost_13 : decode bX6_markMostLost.2.1 13 = .ok (.invokevirtual 43, 3) := by decide +kernel
theorem dX6_markMostLost_16 : decode bX6_markMostLost.2.1 16 = .ok (.istore_n 3, 1) := by decide +kernel
theorem dX6_markMostLost_17 : decode bX6_markMostLost.2.1 17 = .ok (.iload_n 3, 1) := by decide +kernel
theorem dX6_markMostLost_18 : decode bX6_markMostLost.2.1 18 = .ok (.iconst (-1), 1) := by decide +kernel
theorem dX6_markMostLost_19 : decode bX6_markMostLost.2.1 19 = .ok (.if_icmp .ne 4, 3) := by decide +kernel
theorem dX6_markMostLost_22 : decode bX6_markMostLost.2.1 22 = .ok (.return_, 1) := by decide +kernel
theorem dX6_markMostLost_23 : decode bX6_markMostLost.2.1 23 = .ok (.aload_n 0, 1) := by decide +kernel
theorem dX6_markMostLost_24 : decode bX6_markMostLost.2.1 24 = .ok (.dup, 1) := by decide +kernel
theorem dX6_markMostLost_25 : decode bX6_markMostLost.2.1 25 = .ok (.getfield 18, 3) := by decide +kernel
theorem dX6_markMostLost_28 : decode bX6_markMostLost.2.1 28 = .ok (.iconst 1, 1) := by decide +kernel
theorem dX6_markMostLost_29 : decode bX6_markMostLost.2.1 29 = .ok (.iload_n 3, 1) := by decide +kernel
theorem dX6_markMostLost_30 : decode bX6_markMostLost.2.1 30 = .ok (.ishl, 1) := by decide +kernel
theorem dX6_markMostLost_31 : decode bX6_markMostLost.2.1 31 = .ok (.ior, 1) := by decide +kernel
theorem dX6_markMostLost_32 : decode bX6_markMostLost.2.1 32 = .ok (.putfield 18, 3) := by decide +kernel
theorem dX6_markMostLost_35 : decode bX6_markMostLost.2.1 35 = .ok (.iinc 2 1, 3) := by decide +kernel
theorem dX6_markMostLost_38 : decode bX6_markMostLost.2.1 38 = .ok (.goto (-31), 3) := by decide +kernel
theorem dX6_markMostLost_41 : decode bX6_markMostLost.2.1 41 = .ok (.return_, 1) := by decide +kernel
theorem dX6_mostLostNotMarked_0 : decode bX6_mostLostNotMarked.2.1 0 = .ok (.iconst (-1), 1) := by decide +kernel
theorem dX6_mostLostNotMarked_1 : decode bX6_mostLostNotMarked.2.1 1 = .ok (.istore_n 1, 1) := by decide +kernel
theorem dX6_mostLostNotMarked_2 : decode bX6_mostLostNotMarked.2.1 2 = .ok (.iconst 0, 1) := by decide +kernel
theorem dX6_mostLostNotMarked_3 : decode bX6_mostLostNotMarked.2.1 3 = .ok (.istore_n 2, 1) := by decide +kernel
theorem dX6_mostLostNotMarked_4 : decode bX6_mostLostNotMarked.2.1 4 = .ok (.iconst 0, 1) := by decide +kernel
theorem dX6_mostLostNotMarked_5 : decode bX6_mostLostNotMarked.2.1 5 = .ok (.istore_n 3, 1) := by decide +kernel
theorem dX6_mostLostNotMarked_6 : decode bX6_mostLostNotMarked.2.1 6 = .ok (.iload_n 3, 1) := by decide +kernel
theorem dX6_mostLostNotMarked_7 : decode bX6_mostLostNotMarked.2.1 7 = .ok (.aload_n 0, 1) := by decide +kernel
theorem dX6_mostLostNotMarked_8 : decode bX6_mostLostNotMarked.2.1 8 = .ok (.getfield 9, 3) := by decide +kernel
theorem dX6_mostLostNotMarked_11 : decode bX6_mostLostNotMarked.2.1 11 = .ok (.arraylength, 1) := by decide +kernel
theorem dX6_mostLostNotMarked_12 : decode bX6_mostLostNotMarked.2.1 12 = .ok (.if_icmp .ge 36, 3) := by decide +kernel
theorem dX6_mostLostNotMarked_15 : decode bX6_mostLostNotMarked.2.1 15 = .ok (.aload_n 0, 1) := by decide +kernel
theorem dX6_mostLostNotMarked_16 : decode bX6_mostLostNotMarked.2.1 16 = .ok (.iload_n 3, 1) := by decide +kernel
theorem dX6_mostLostNotMarked_17 : decode bX6_mostLostNotMarked.2.1 17 = .ok (.invokevirtual 47, 3) := by decide +kernel
theorem dX6_mostLostNotMarked_20 : decode bX6_mostLostNotMarked.2.1 20 = .ok (.ifCond .ne 22, 3) := by decide +kernel
theorem dX6_mostLostNotMarked_23 : decode bX6_mostLostNotMarked.2.1 23 = .ok (.aload_n 0, 1) := by decide +kernel
theorem dX6_mostLostNotMarked_24 : decode bX6_mostLostNotMarked.2.1 24 = .ok (.getfield 9, 3) := by decide +kernel
theorem dX6_mostLostNotMarked_27 : decode bX6_mostLostNotMarked.2.1 27 = .ok (.iload_n 3, 1) := by decide +kernel
theorem dX6_mostLostNotMarked_28 : decode bX6_mostLostNotMarked.2.1 28 = .ok (.iaload, 1) := by decide +kernel
theorem dX6_mostLostNotMarked_29 : decode bX6_mostLostNotMarked.2.1 29 = .ok (.iload_n 2, 1) := by decide +kernel
theorem dX6_mostLostNotMarked_30 : decode bX6_mostLostNotMarked.2.1 30 = .ok (.if_icmp .le 12, 3) := by decide +kernel
theorem dX6_mostLostNotMarked_33 : decode bX6_mostLostNotMarked.2.1 33 = .ok (.aload_n 0, 1) := by decide +kernel
theorem dX6_mostLostNotMarked_34 : decode bX6_mostLostNotMarked.2.1 34 = .ok (.getfield 9, 3) := by decide +kernel
theorem dX6_mostLostNotMarked_37 : decode bX6_mostLostNotMarked.2.1 37 = .ok (.iload_n 3, 1) := by decide +kernel
theorem dX6_mostLostNotMarked_38 : decode bX6_mostLostNotMarked.2.1 38 = .ok (.iaload, 1) := by decide +kernel
theorem dX6_mostLostNotMarked_39 : decode bX6_mostLostNotMarked.2.1 39 = .ok (.istore_n 2, 1) := by decide +kernel
theorem dX6_mostLostNotMarked_40 : decode bX6_mostLostNotMarked.2.1 40 = .ok (.iload_n 3, 1) := by decide +kernel
theorem dX6_mostLostNotMarked_41 : decode bX6_mostLostNotMarked.2.1 41 = .ok (.istore_n 1, 1) := by decide +kernel
theorem dX6_mostLostNotMarked_42 : decode bX6_mostLostNotMarked.2.1 42 = .ok (.iinc 3 1, 3) := by decide +kernel
theorem dX6_mostLostNotMarked_45 : decode bX6_mostLostNotMarked.2.1 45 = .ok (.goto (-39), 3) := by decide +kernel
theorem dX6_mostLostNotMarked_48 : decode bX6_mostLostNotMarked.2.1 48 = .ok (.iload_n 1, 1) := by decide +kernel
theorem dX6_mostLostNotMarked_49 : decode bX6_mostLostNotMarked.2.1 49 = .ok (.ireturn, 1) := by decide +kernel
theorem dX6_keepImage_0 : decode bX6_keepImage.2.1 0 = .ok (.aload_n 0, 1) := by decide +kernel
theorem dX6_keepImage_1 : decode bX6_keepImage.2.1 1 = .ok (.iconst 1, 1) := by decide +kernel
theorem dX6_keepImage_2 : decode bX6_keepImage.2.1 2 = .ok (.putfield 28, 3) := by decide +kernel
theorem dX6_keepImage_5 : decode bX6_keepImage.2.1 5 = .ok (.aload_n 0, 1) := by decide +kernel
theorem dX6_keepImage_6 : decode bX6_keepImage.2.1 6 = .ok (.aload_n 0, 1) := by decide +kernel
theorem dX6_keepImage_7 : decode bX6_keepImage.2.1 7 = .ok (.getfield 18, 3) := by decide +kernel
theorem dX6_keepImage_10 : decode bX6_keepImage.2.1 10 = .ok (.putfield 51, 3) := by decide +kernel
theorem dX6_keepImage_13 : decode bX6_keepImage.2.1 13 = .ok (.aload_n 0, 1) := by decide +kernel
theorem dX6_keepImage_14 : decode bX6_keepImage.2.1 14 = .ok (.getfield 9, 3) := by decide +kernel
theorem dX6_keepImage_17 : decode bX6_keepImage.2.1 17 = .ok (.iconst 0, 1) := by decide +kernel
theorem dX6_keepImage_18 : decode bX6_keepImage.2.1 18 = .ok (.aload_n 0, 1) := by decide +kernel
theorem dX6_keepImage_19 : decode bX6_keepImage.2.1 19 = .ok (.getfield 15, 3) := by decide +kernel
theorem dX6_keepImage_22 : decode bX6_keepImage.2.1 22 = .ok (.iconst 0, 1) := by decide +kernel
theorem dX6_keepImage_23 : decode bX6_keepImage.2.1 23 = .ok (.bipush 24, 2) := by decide +kernel
theorem dX6_keepImage_25 : decode bX6_keepImage.2.1 25 = .ok (.invokestatic 54, 3) := by decide +kernel
theorem dX6_keepImage_28 : decode bX6_keepImage.2.1 28 = .ok (.return_, 1) := by decide +kernel
theorem dX6_goBack_0 : decode bX6_goBack.2.1 0 = .ok (.aload_n 0, 1) := by decide +kernel
theorem dX6_goBack_1 : decode bX6_goBack.2.1 1 = .ok (.aload_n 0, 1) := by decide +kernel
theorem dX6_goBack_2 : decode bX6_goBack.2.1 2 = .ok (.getfield 51, 3) := by decide +kernel
theorem dX6_goBack_5 : decode bX6_goBack.2.1 5 = .ok (.putfield 18, 3) := by decide +kernel
theorem dX6_goBack_8 : decode bX6_goBack.2.1 8 = .ok (.aload_n 0, 1) := by decide +kernel
theorem dX6_goBack_9 : decode bX6_goBack.2.1 9 = .ok (.getfield 15, 3) := by decide +kernel
theorem dX6_goBack_12 : decode bX6_goBack.2.1 12 = .ok (.iconst 0, 1) := by decide +kernel
theorem dX6_goBack_13 : decode bX6_goBack.2.1 13 = .ok (.aload_n 0, 1) := by decide +kernel
theorem dX6_goBack_14 : decode bX6_goBack.2.1 14 = .ok (.getfield 9, 3) := by decide +kernel
theorem dX6_goBack_17 : decode bX6_goBack.2.1 17 = .ok (.iconst 0, 1) := by decide +kernel
theorem dX6_goBack_18 : decode bX6_goBack.2.1 18 = .ok (.bipush 24, 2) := by decide +kernel
theorem dX6_goBack_20 : decode bX6_goBack.2.1 20 = .ok (.invokestatic 54, 3) := by decide +kernel
theorem dX6_goBack_23 : decode bX6_goBack.2.1 23 = .ok (.return_, 1) := by decide +kernel
theorem dX7_init_0 : decode bX7_init.2.1 0 = .ok (.aload_n 0, 1) := by decide +kernel
theorem dX7_init_1 : decode bX7_init.2.1 1 = .ok (.invokespecial 3, 3) := by decide +kernel
theorem dX7_init_4 : decode bX7_init.2.1 4 = .ok (.aload_n 0, 1) := by decide +kernel
theorem dX7_init_5 : decode bX7_init.2.1 5 = .ok (.bipush 24, 2) := by decide +kernel
theorem dX7_init_7 : decode bX7_init.2.1 7 = .ok (.newarray .int, 2) := by decide +kernel
theorem dX7_init_9 : decode bX7_init.2.1 9 = .ok (.putfield 9, 3) := by decide +kernel
theorem dX7_init_12 : decode bX7_init.2.1 12 = .ok (.aload_n 0, 1) := by decide +kernel
theorem dX7_init_13 : decode bX7_init.2.1 13 = .ok (.bipush 24, 2) := by decide +kernel
theorem dX7_init_15 : decode bX7_init.2.1 15 = .ok (.newarray .int, 2) := by decide +kernel
theorem dX7_init_17 : decode bX7_init.2.1 17 = .ok (.putfield 15, 3) := by decide +kernel
theorem dX7_init_20 : decode bX7_init.2.1 20 = .ok (.aload_n 0, 1) := by decide +kernel
theorem dX7_init_21 : decode bX7_init.2.1 21 = .ok (.bipush 24, 2) := by decide +kernel
theorem dX7_init_23 : decode bX7_init.2.1 23 = .ok (.newarray .long, 2) := by decide +kernel
theorem dX7_init_25 : decode bX7_init.2.1 25 = .ok (.putfield 18, 3) := by decide +kernel
theorem dX7_init_28 : decode bX7_init.2.1 28 = .ok (.aload_n 0, 1) := by decide +kernel
theorem dX7_init_29 : decode bX7_init.2.1 29 = .ok (.bipush 24, 2) := by decide +kernel
theorem dX7_init_31 : decode bX7_init.2.1 31 = .ok (.newarray .long, 2) := by decide +kernel
theorem dX7_init_33 : decode bX7_init.2.1 33 = .ok (.putfield 22, 3) := by decide +kernel
theorem dX7_init_36 : decode bX7_init.2.1 36 = .ok (.aload_n 0, 1) := by decide +kernel
theorem dX7_init_37 : decode bX7_init.2.1 37 = .ok (.bipush 24, 2) := by decide +kernel
theorem dX7_init_39 : decode bX7_init.2.1 39 = .ok (.newarray .long, 2) := by decide +kernel
theorem dX7_init_41 : decode bX7_init.2.1 41 = .ok (.putfield 25, 3) := by decide +kernel
theorem dX7_init_44 : decode bX7_init.2.1 44 = .ok (.aload_n 0, 1) := by decide +kernel
theorem dX7_init_45 : decode bX7_init.2.1 45 = .ok (.bipush 24, 2) := by decide +kernel
theorem dX7_init_47 : decode bX7_init.2.1 47 = .ok (.newarray .long, 2) := by decide +kernel
theorem dX7_init_49 : decode bX7_init.2.1 49 = .ok (.putfield 28, 3) := by decide +kernel
theorem dX7_init_52 : decode bX7_init.2.1 52 = .ok (.aload_n 0, 1) := by decide +kernel
theorem dX7_init_53 : decode bX7_init.2.1 53 = .ok (.aload_n 1, 1) := by decide +kernel
theorem dX7_init_54 : decode bX7_init.2.1 54 = .ok (.putfield 31, 3) := by decide +kernel
theorem dX7_init_57 : decode bX7_init.2.1 57 = .ok (.aload_n 0, 1) := by decide +kernel
theorem dX7_init_58 : decode bX7_init.2.1 58 = .ok (.aload_n 2, 1) := by decide +kernel
theorem dX7_init_59 : decode bX7_init.2.1 59 = .ok (.putfield 35, 3) := by decide +kernel
theorem dX7_init_62 : decode bX7_init.2.1 62 = .ok (.return_, 1) := by decide +kernel
theorem dX7_chanceWith_0 : decode bX7_chanceWith.2.1 0 = .ok (.aload_n 0, 1) := by decide +kernel
theorem dX7_chanceWith_1 : decode bX7_chanceWith.2.1 1 = .ok (.iload_n 1, 1) := by decide +kernel
theorem dX7_chanceWith_2 : decode bX7_chanceWith.2.1 2 = .ok (.invokevirtual 39, 3) := by decide +kernel
theorem dX7_chanceWith_5 : decode bX7_chanceWith.2.1 5 = .ok (.aload_n 0, 1) := by decide +kernel
theorem dX7_chanceWith_6 : decode bX7_chanceWith.2.1 6 = .ok (.iload_n 2, 1) := by decide +kernel
theorem dX7_chanceWith_7 : decode bX7_chanceWith.2.1 7 = .ok (.invokevirtual 43, 3) := by decide +kernel
theorem dX7_chanceWith_10 : decode bX7_chanceWith.2.1 10 = .ok (.aload_n 0, 1) := by decide +kernel
theorem dX7_chanceWith_11 : decode bX7_chanceWith.2.1 11 = .ok (.getfield 46, 3) := by decide +kernel
theorem dX7_chanceWith_14 : decode bX7_chanceWith.2.1 14 = .ok (.l2i, 1) := by decide +kernel
theorem dX7_chanceWith_15 : decode bX7_chanceWith.2.1 15 = .ok (.ireturn, 1) := by decide +kernel
theorem dX7_chanceIfSure_0 : decode bX7_chanceIfSure.2.1 0 = .ok (.aload_n 0, 1) := by decide +kernel
theorem dX7_chanceIfSure_1 : decode bX7_chanceIfSure.2.1 1 = .ok (.iload_n 2, 1) := by decide +kernel
theorem dX7_chanceIfSure_2 : decode bX7_chanceIfSure.2.1 2 = .ok (.invokevirtual 39, 3) := by decide +kernel
theorem dX7_chanceIfSure_5 : decode bX7_chanceIfSure.2.1 5 = .ok (.iconst 0, 1) := by decide +kernel
theorem dX7_chanceIfSure_6 : decode bX7_chanceIfSure.2.1 6 = .ok (.istore 4, 2) := by decide +kernel
theorem dX7_chanceIfSure_8 : decode bX7_chanceIfSure.2.1 8 = .ok (.iload 4, 2) := by decide +kernel
theorem dX7_chanceIfSure_10 : decode bX7_chanceIfSure.2.1 10 = .ok (.aload_n 0, 1) := by decide +kernel
theorem dX7_chanceIfSure_11 : decode bX7_chanceIfSure.2.1 11 = .ok (.getfield 31, 3) := by decide +kernel
theorem dX7_chanceIfSure_14 : decode bX7_chanceIfSure.2.1 14 = .ok (.getfield 50, 3) := by decide +kernel
theorem dX7_chanceIfSure_17 : decode bX7_chanceIfSure.2.1 17 = .ok (.if_icmp .ge 31, 3) := by decide +kernel
theorem dX7_chanceIfSure_20 : decode bX7_chanceIfSure.2.1 20 = .ok (.aload_n 0, 1) := by decide +kernel
theorem dX7_chanceIfSure_21 : decode bX7_chanceIfSure.2.1 21 = .ok (.getfield 31, 3) := by decide +kernel
theorem dX7_chanceIfSure_24 : decode bX7_chanceIfSure.2.1 24 = .ok (.getfield 56, 3) := by decide +kernel
theorem dX7_chanceIfSure_27 : decode bX7_chanceIfSure.2.1 27 = .ok (.iload 4, 2) := by decide +kernel
theorem dX7_chanceIfSure_29 : decode bX7_chanceIfSure.2.1 29 = .ok (.iaload, 1) := by decide +kernel
theorem dX7_chanceIfSure_30 : decode bX7_chanceIfSure.2.1 30 = .ok (.iload_n 1, 1) := by decide +kernel
theorem dX7_chanceIfSure_31 : decode bX7_chanceIfSure.2.1 31 = .ok (.if_icmp .ne 11, 3) := by decide +kernel
theorem dX7_chanceIfSure_34 : decode bX7_chanceIfSure.2.1 34 = .ok (.aload_n 0, 1) := by decide +kernel
theorem dX7_chanceIfSure_35 : decode bX7_chanceIfSure.2.1 35 = .ok (.getfield 9, 3) := by decide +kernel
theorem dX7_chanceIfSure_38 : decode bX7_chanceIfSure.2.1 38 = .ok (.iload 4, 2) := by decide +kernel
theorem dX7_chanceIfSure_40 : decode bX7_chanceIfSure.2.1 40 = .ok (.iconst 0, 1) := by decide +kernel
theorem dX7_chanceIfSure_41 : decode bX7_chanceIfSure.2.1 41 = .ok (.iastore, 1) := by decide +kernel
theorem dX7_chanceIfSure_42 : decode bX7_chanceIfSure.2.1 42 = .ok (.iinc 4 1, 3) := by decide +kernel
theorem dX7_chanceIfSure_45 : decode bX7_chanceIfSure.2.1 45 = .ok (.goto (-37), 3) := by decide +kernel
theorem dX7_chanceIfSure_48 : decode bX7_chanceIfSure.2.1 48 = .ok (.aload_n 0, 1) := by decide +kernel
theorem dX7_chanceIfSure_49 : decode bX7_chanceIfSure.2.1 49 = .ok (.iload_n 3, 1) := by decide +kernel
theorem dX7_chanceIfSure_50 : decode bX7_chanceIfSure.2.1 50 = .ok (.invokevirtual 43, 3) := by decide +kernel
theorem dX7_chanceIfSure_53 : decode bX7_chanceIfSure.2.1 53 = .ok (.aload_n 0, 1) := by decide +kernel
theorem dX7_chanceIfSure_54 : decode bX7_chanceIfSure.2.1 54 = .ok (.getfield 46, 3) := by decide +kernel
theorem dX7_chanceIfSure_57 : decode bX7_chanceIfSure.2.1 57 = .ok (.l2i, 1) := by decide +kernel
theorem dX7_chanceIfSure_58 : decode bX7_chanceIfSure.2.1 58 = .ok (.ireturn, 1) := by decide +kernel
theorem dX7_prepare_0 : decode bX7_prepare.2.1 0 = .ok (.iconst 0, 1) := by decide +kernel
theorem dX7_prepare_1 : decode bX7_prepare.2.1 1 = .ok (.istore_n 2, 1) := by decide +kernel
theorem dX7_prepare_2 : decode bX7_prepare.2.1 2 = .ok (.iload_n 2, 1) := by decide +kernel
theorem dX7_prepare_3 : decode bX7_prepare.2.1 3 = .ok (.aload_n 0, 1) := by decide +kernel
theorem dX7_prepare_4 : decode bX7_prepare.2.1 4 = .ok (.getfield 31, 3) := by decide +kernel
theorem dX7_prepare_7 : decode bX7_prepare.2.1 7 = .ok (.getfield 50, 3) := by decide +kernel
theorem dX7_prepare_10 : decode bX7_prepare.2.1 10 = .ok (.if_icmp .ge 60, 3) := by decide +kernel
theorem dX7_prepare_13 : decode bX7_prepare.2.1 13 = .ok (.iload_n 1, 1) := by decide +kernel
theorem dX7_prepare_14 : decode bX7_prepare.2.1 14 = .ok (.iload_n 2, 1) := by decide +kernel
theorem dX7_prepare_15 : decode bX7_prepare.2.1 15 = .ok (.ishr, 1) := by decide +kernel
theorem dX7_prepare_16 : decode bX7_prepare.2.1 16 = .ok (.iconst 1, 1) := by decide +kernel
theorem dX7_prepare_17 : decode bX7_prepare.2.1 17 = .ok (.iand, 1) := by decide +kernel
theorem dX7_prepare_18 : decode bX7_prepare.2.1 18 = .ok (.ifCond .eq 7, 3) := by decide +kernel
theorem dX7_prepare_21 : decode bX7_prepare.2.1 21 = .ok (.iconst 1, 1) := by decide +kernel
theorem dX7_prepare_22 : decode bX7_prepare.2.1 22 = .ok (.goto 4, 3) := by decide +kernel
theorem dX7_prepare_25 : decode bX7_prepare.2.1 25 = .ok (.iconst 0, 1) := by decide +kernel
theorem dX7_prepare_26 : decode bX7_prepare.2.1 26 = .ok (.istore_n 3, 1) := by decide +kernel
theorem dX7_prepare_27 : decode bX7_prepare.2.1 27 = .ok (.aload_n 0, 1) := by decide +kernel
theorem dX7_prepare_28 : decode bX7_prepare.2.1 28 = .ok (.getfield 9, 3) := by decide +kernel
theorem dX7_prepare_31 : decode bX7_prepare.2.1 31 = .ok (.iload_n 2, 1) := by decide +kernel
theorem dX7_prepare_32 : decode bX7_prepare.2.1 32 = .ok (.aload_n 0, 1) := by decide +kernel
theorem dX7_prepare_33 : decode bX7_prepare.2.1 33 = .ok (.getfield 31, 3) := by decide +kernel
theorem dX7_prepare_36 : decode bX7_prepare.2.1 36 = .ok (.iload_n 2, 1) := by decide +kernel
theorem dX7_prepare_37 : decode bX7_prepare.2.1 37 = .ok (.iload_n 3, 1) := by decide +kernel
theorem dX7_prepare_38 : decode bX7_prepare.2.1 38 = .ok (.invokevirtual 78, 3) := by decide +kernel
theorem dX7_prepare_41 : decode bX7_prepare.2.1 41 = .ok (.iastore, 1) := by decide +kernel
theorem dX7_prepare_42 : decode bX7_prepare.2.1 42 = .ok (.aload_n 0, 1) := by decide +kernel
theorem dX7_prepare_43 : decode bX7_prepare.2.1 43 = .ok (.getfield 15, 3) := by decide +kernel
theorem dX7_prepare_46 : decode bX7_prepare.2.1 46 = .ok (.iload_n 2, 1) := by decide +kernel
theorem dX7_prepare_47 : decode bX7_prepare.2.1 47 = .ok (.iload_n 3, 1) := by decide +kernel
theorem dX7_prepare_48 : decode bX7_prepare.2.1 48 = .ok (.ifCond .eq 14, 3) := by decide +kernel
theorem dX7_prepare_51 : decode bX7_prepare.2.1 51 = .ok (.aload_n 0, 1) := by decide +kernel
theorem dX7_prepare_52 : decode bX7_prepare.2.1 52 = .ok (.getfield 35, 3) := by decide +kernel
theorem dX7_prepare_55 : decode bX7_prepare.2.1 55 = .ok (.iload_n 2, 1) := by decide +kernel
theorem dX7_prepare_56 : decode bX7_prepare.2.1 56 = .ok (.invokevirtual 81, 3) := by decide +kernel
theorem dX7_prepare_59 : decode bX7_prepare.2.1 59 = .ok (.goto 4, 3) := by decide +kernel
theorem dX7_prepare_62 : decode bX7_prepare.2.1 62 = .ok (.iconst 0, 1) := by decide +kernel
theorem dX7_prepare_63 : decode bX7_prepare.2.1 63 = .ok (.iastore, 1) := by decide +kernel
theorem dX7_prepare_64 : decode bX7_prepare.2.1 64 = .ok (.iinc 2 1, 3) := by decide +kernel
theorem dX7_prepare_67 : decode bX7_prepare.2.1 67 = .ok (.goto (-65), 3) := by decide +kernel
theorem dX7_prepare_70 : decode bX7_prepare.2.1 70 = .ok (.return_, 1) := by decide +kernel
theorem dX7_start_0 : decode bX7_start.2.1 0 = .ok (.aload_n 0, 1) := by decide +kernel
theorem dX7_start_1 : decode bX7_start.2.1 1 = .ok (.getfield 18, 3) := by decide +kernel
theorem dX7_start_4 : decode bX7_start.2.1 4 = .ok (.lconst 0, 1) := by decide +kernel
theorem dX7_start_5 : decode bX7_start.2.1 5 = .ok (.invokestatic 86, 3) := by decide +kernel
theorem dX7_start_8 : decode bX7_start.2.1 8 = .ok (.aload_n 0, 1) := by decide +kernel
theorem dX7_start_9 : decode bX7_start.2.1 9 = .ok (.getfield 25, 3) := by decide +kernel
theorem dX7_start_12 : decode bX7_start.2.1 12 = .ok (.lconst 0, 1) := by decide +kernel
theorem dX7_start_13 : decode bX7_start.2.1 13 = .ok (.invokestatic 86, 3) := by decide +kernel
theorem dX7_start_16 : decode bX7_start.2.1 16 = .ok (.aload_n 0, 1) := by decide +kernel
theorem dX7_start_17 : decode bX7_start.2.1 17 = .ok (.getfield 28, 3) := by decide +kernel
theorem dX7_start_20 : decode bX7_start.2.1 20 = .ok (.lconst 0, 1) := by decide +kernel
theorem dX7_start_21 : decode bX7_start.2.1 21 = .ok (.invokestatic 86, 3) := by decide +kernel
theorem dX7_start_24 : decode bX7_start.2.1 24 = .ok (.aload_n 0, 1) := by decide +kernel
theorem dX7_start_25 : decode bX7_start.2.1 25 = .ok (.lconst 0, 1) := by decide +kernel
theorem dX7_start_26 : decode bX7_start.2.1 26 = .ok (.putfield 46, 3) := by decide +kernel
theorem dX7_start_29 : decode bX7_start.2.1 29 = .ok (.aload_n 0, 1) := by decide +kernel
theorem dX7_start_30 : decode bX7_start.2.1 30 = .ok (.ldc2_w 92, 3) := by decide +kernel
theorem dX7_start_33 : decode bX7_start.2.1 33 = .ok (.putfield 94, 3) := by decide +kernel
theorem dX7_start_36 : decode bX7_start.2.1 36 = .ok (.aload_n 0, 1) := by decide +kernel
theorem dX7_start_37 : decode bX7_start.2.1 37 = .ok (.getfield 18, 3) := by decide +kernel
theorem dX7_start_40 : decode bX7_start.2.1 40 = .ok (.iconst 0, 1) := by decide +kernel
theorem dX7_start_41 : decode bX7_start.2.1 41 = .ok (.ldc2_w 92, 3) := by decide +kernel
theorem dX7_start_44 : decode bX7_start.2.1 44 = .ok (.lastore, 1) := by decide +kernel
theorem dX7_start_45 : decode bX7_start.2.1 45 = .ok (.return_, 1) := by decide +kernel
theorem dX7_flow_0 : decode bX7_flow.2.1 0 = .ok (.aload_n 0, 1) := by decide +kernel
theorem dX7_flow_1 : decode bX7_flow.2.1 1 = .ok (.invokevirtual 97, 3) := by decide +kernel
theorem dX7_flow_4 : decode bX7_flow.2.1 4 = .ok (.iconst 0, 1) := by decide +kernel
theorem dX7_flow_5 : decode bX7_flow.2.1 5 = .ok (.istore_n 2, 1) := by decide +kernel
theorem dX7_flow_6 : decode bX7_flow.2.1 6 = .ok (.iload_n 2, 1) := by decide +kernel
theorem dX7_flow_7 : decode bX7_flow.2.1 7 = .ok (.iload_n 1, 1) := by decide +kernel
theorem dX7_flow_8 : decode bX7_flow.2.1 8 = .ok (.if_icmp .ge 22, 3) := by decide +kernel
theorem dX7_flow_11 : decode bX7_flow.2.1 11 = .ok (.aload_n 0, 1) := by decide +kernel
theorem dX7_flow_12 : decode bX7_flow.2.1 12 = .ok (.getfield 94, 3) := by decide +kernel
theorem dX7_flow_15 : decode bX7_flow.2.1 15 = .ok (.lconst 0, 1) := by decide +kernel
theorem dX7_flow_16 : decode bX7_flow.2.1 16 = .ok (.lcmp, 1) := by decide +kernel
theorem dX7_flow_17 : decode bX7_flow.2.1 17 = .ok (.ifCond .le 13, 3) := by decide +kernel
theorem dX7_flow_20 : decode bX7_flow.2.1 20 = .ok (.aload_n 0, 1) := by decide +kernel
theorem dX7_flow_21 : decode bX7_flow.2.1 21 = .ok (.invokevirtual 100, 3) := by decide +kernel
theorem dX7_flow_24 : decode bX7_flow.2.1 24 = .ok (.iinc 2 1, 3) := by decide +kernel
theorem dX7_flow_27 : decode bX7_flow.2.1 27 = .ok (.goto (-21), 3) := by decide +kernel
theorem dX7_flow_30 : decode bX7_flow.2.1 30 = .ok (.return_, 1) := by decide +kernel
theorem dX7_step_0 : decode bX7_step.2.1 0 = .ok (.aload_n 0, 1) := by decide +kernel
theorem dX7_step_1 : decode bX7_step.2.1 1 = .ok (.getfield 22, 3) := by decide +kernel
theorem dX7_step_4 : decode bX7_step.2.1 4 = .ok (.lconst 0, 1) := by decide +kernel
theorem dX7_step_5 : decode bX7_step.2.1 5 = .ok (.invokestatic 86, 3) := by decide +kernel
theorem dX7_step_8 : decode bX7_step.2.1 8 = .ok (.aload_n 0, 1) := by decide +kernel
theorem dX7_step_9 : decode bX7_step.2.1 9 = .ok (.lconst 0, 1) := by decide +kernel
theorem dX7_step_10 : decode bX7_step.2.1 10 = .ok (.putfield 94, 3) := by decide +kernel
theorem dX7_step_13 : decode bX7_step.2.1 13 = .ok (.iconst 0, 1) := by decide +kernel
theorem dX7_step_14 : decode bX7_step.2.1 14 = .ok (.istore_n 1, 1) := by decide +kernel
theorem dX7_step_15 : decode bX7_step.2.1 15 = .ok (.iload_n 1, 1) := by decide +kernel
theorem dX7_step_16 : decode bX7_step.2.1 16 = .ok (.aload_n 0, 1) := by decide +kernel
theorem dX7_step_17 : decode bX7_step.2.1 17 = .ok (.getfield 31, 3) := by decide +kernel
theorem dX7_step_20 : decode bX7_step.2.1 20 = .ok (.getfield 50, 3) := by decide +kernel
theorem dX7_step_23 : decode bX7_step.2.1 23 = .ok (.if_icmp .ge 31, 3) := by decide +kernel
theorem dX7_step_26 : decode bX7_step.2.1 26 = .ok (.aload_n 0, 1) := by decide +kernel
theorem dX7_step_27 : decode bX7_step.2.1 27 = .ok (.getfield 18, 3) := by decide +kernel
theorem dX7_step_30 : decode bX7_step.2.1 30 = .ok (.iload_n 1, 1) := by decide +kernel
theorem dX7_step_31 : decode bX7_step.2.1 31 = .ok (.laload, 1) := by decide +kernel
theorem dX7_step_32 : decode bX7_step.2.1 32 = .ok (.lconst 0, 1) := by decide +kernel
theorem dX7_step_33 : decode bX7_step.2.1 33 = .ok (.lcmp, 1) := by decide +kernel
theorem dX7_step_34 : decode bX7_step.2.1 34 = .ok (.ifCond .eq 14, 3) := by decide +kernel
theorem dX7_step_37 : decode bX7_step.2.1 37 = .ok (.aload_n 0, 1) := by decide +kernel
theorem dX7_step_38 : decode bX7_step.2.1 38 = .ok (.iload_n 1, 1) := by decide +kernel
theorem dX7_step_39 : decode bX7_step.2.1 39 = .ok (.aload_n 0, 1) := by decide +kernel
theorem dX7_step_40 : decode bX7_step.2.1 40 = .ok (.getfield 18, 3) := by decide +kernel
theorem dX7_step_43 : decode bX7_step.2.1 43 = .ok (.iload_n 1, 1) := by decide +kernel
theorem dX7_step_44 : decode bX7_step.2.1 44 = .ok (.laload, 1) := by decide +kernel
theorem dX7_step_45 : decode bX7_step.2.1 45 = .ok (.invokevirtual 103, 3) := by decide +kernel
theorem dX7_step_48 : decode bX7_step.2.1 48 = .ok (.iinc 1 1, 3) := by decide +kernel
theorem dX7_step_51 : decode bX7_step.2.1 51 = .ok (.goto (-36), 3) := by decide +kernel
theorem dX7_step_54 : decode bX7_step.2.1 54 = .ok (.aload_n 0, 1) := by decide +kernel
theorem dX7_step_55 : decode bX7_step.2.1 55 = .ok (.getfield 18, 3) := by decide +kernel
theorem dX7_step_58 : decode bX7_step.2.1 58 = .ok (.astore_n 1, 1) := by decide +kernel
theorem dX7_step_59 : decode bX7_step.2.1 59 = .ok (.aload_n 0, 1) := by decide +kernel
theorem dX7_step_60 : decode bX7_step.2.1 60 = .ok (.aload_n 0, 1) := by decide +kernel
theorem dX7_step_61 : decode bX7_step.2.1 61 = .ok (.getfield 22, 3) := by decide +kernel
theorem dX7_step_64 : decode bX7_step.2.1 64 = .ok (.putfield 18, 3) := by decide +kernel
theorem dX7_step_67 : decode bX7_step.2.1 67 = .ok (.aload_n 0, 1) := by decide +kernel
theorem dX7_step_68 : decode bX7_step.2.1 68 = .ok (.aload_n 1, 1) := by decide +kernel
theorem dX7_step_69 : decode bX7_step.2.1 69 = .ok (.putfield 22, 3) := by decide +kernel
theorem dX7_step_72 : decode bX7_step.2.1 72 = .ok (.return_, 1) := by decide +kernel
theorem dX7_comeTo_0 : decode bX7_comeTo.2.1 0 = .ok (.lload_n 2, 1) := by decide +kernel
theorem dX7_comeTo_1 : decode bX7_comeTo.2.1 1 = .ok (.aload_n 0, 1) := by decide +kernel
theorem dX7_comeTo_2 : decode bX7_comeTo.2.1 2 = .ok (.getfield 9, 3) := by decide +kernel
theorem dX7_comeTo_5 : decode bX7_comeTo.2.1 5 = .ok (.iload_n 1, 1) := by decide +kernel
theorem dX7_comeTo_6 : decode bX7_comeTo.2.1 6 = .ok (.iaload, 1) := by decide +kernel
theorem dX7_comeTo_7 : decode bX7_comeTo.2.1 7 = .ok (.i2l, 1) := by decide +kernel
theorem dX7_comeTo_8 : decode bX7_comeTo.2.1 8 = .ok (.lmul, 1) := by decide +kernel
theorem dX7_comeTo_9 : decode bX7_comeTo.2.1 9 = .ok (.ldc2_w 107, 3) := by decide +kernel
theorem dX7_comeTo_12 : decode bX7_comeTo.2.1 12 = .ok (.ldiv, 1) := by decide +kernel
theorem dX7_comeTo_13 : decode bX7_comeTo.2.1 13 = .ok (.lstore 4, 2) := by decide +kernel
theorem dX7_comeTo_15 : decode bX7_comeTo.2.1 15 = .ok (.lload 4, 2) := by decide +kernel
theorem dX7_comeTo_17 : decode bX7_comeTo.2.1 17 = .ok (.lload 4, 2) := by decide +kernel
theorem dX7_comeTo_19 : decode bX7_comeTo.2.1 19 = .ok (.aload_n 0, 1) := by decide +kernel
theorem dX7_comeTo_20 : decode bX7_comeTo.2.1 20 = .ok (.getfield 15, 3) := by decide +kernel
theorem dX7_comeTo_23 : decode bX7_comeTo.2.1 23 = .ok (.iload_n 1, 1) := by decide +kernel
theorem dX7_comeTo_24 : decode bX7_comeTo.2.1 24 = .ok (.iaload, 1) := by decide +kernel
theorem dX7_comeTo_25 : decode bX7_comeTo.2.1 25 = .ok (.i2l, 1) := by decide +kernel
theorem dX7_comeTo_26 : decode bX7_comeTo.2.1 26 = .ok (.lmul, 1) := by decide +kernel
theorem dX7_comeTo_27 : decode bX7_comeTo.2.1 27 = .ok (.ldc2_w 107, 3) := by decide +kernel
theorem dX7_comeTo_30 : decode bX7_comeTo.2.1 30 = .ok (.ldiv, 1) := by decide +kernel
theorem dX7_comeTo_31 : decode bX7_comeTo.2.1 31 = .ok (.lsub, 1) := by decide +kernel
theorem dX7_comeTo_32 : decode bX7_comeTo.2.1 32 = .ok (.lstore 6, 2) := by decide +kernel
theorem dX7_comeTo_34 : decode bX7_comeTo.2.1 34 = .ok (.aload_n 0, 1) := by decide +kernel
theorem dX7_comeTo_35 : decode bX7_comeTo.2.1 35 = .ok (.iload_n 1, 1) := by decide +kernel
theorem dX7_comeTo_36 : decode bX7_comeTo.2.1 36 = .ok (.lload_n 2, 1) := by decide +kernel
theorem dX7_comeTo_37 : decode bX7_comeTo.2.1 37 = .ok (.lload 6, 2) := by decide +kernel
theorem dX7_comeTo_39 : decode bX7_comeTo.2.1 39 = .ok (.lsub, 1) := by decide +kernel
theorem dX7_comeTo_40 : decode bX7_comeTo.2.1 40 = .ok (.invokevirtual 109, 3) := by decide +kernel
theorem dX7_comeTo_43 : decode bX7_comeTo.2.1 43 = .ok (.aload_n 0, 1) := by decide +kernel
theorem dX7_comeTo_44 : decode bX7_comeTo.2.1 44 = .ok (.getfield 35, 3) := by decide +kernel
theorem dX7_comeTo_47 : decode bX7_comeTo.2.1 47 = .ok (.getfield 112, 3) := by decide +kernel
theorem dX7_comeTo_50 : decode bX7_comeTo.2.1 50 = .ok (.iload_n 1, 1) := by decide +kernel
theorem dX7_comeTo_51 : decode bX7_comeTo.2.1 51 = .ok (.iaload, 1) := by decide +kernel
theorem dX7_comeTo_52 : decode bX7_comeTo.2.1 52 = .ok (.iconst (-1), 1) := by decide +kernel
theorem dX7_comeTo_53 : decode bX7_comeTo.2.1 53 = .ok (.if_icmp .ne 17, 3) := by decide +kernel
theorem dX7_comeTo_56 : decode bX7_comeTo.2.1 56 = .ok (.aload_n 0, 1) := by decide +kernel
theorem dX7_comeTo_57 : decode bX7_comeTo.2.1 57 = .ok (.getfield 25, 3) := by decide +kernel
theorem dX7_comeTo_60 : decode bX7_comeTo.2.1 60 = .ok (.iload_n 1, 1) := by decide +kernel
theorem dX7_comeTo_61 : decode bX7_comeTo.2.1 61 = .ok (.dup2, 1) := by decide +kernel
theorem dX7_comeTo_62 : decode bX7_comeTo.2.1 62 = .ok (.laload, 1) := by decide +kernel
theorem dX7_comeTo_63 : decode bX7_comeTo.2.1 63 = .ok (.lload 6, 2) := by decide +kernel
theorem dX7_comeTo_65 : decode bX7_comeTo.2.1 65 = .ok (.ladd, 1) := by decide +kernel
theorem dX7_comeTo_66 : decode bX7_comeTo.2.1 66 = .ok (.lastore, 1) := by decide +kernel
theorem dX7_comeTo_67 : decode bX7_comeTo.2.1 67 = .ok (.goto 18, 3) := by decide +kernel
theorem dX7_comeTo_70 : decode bX7_comeTo.2.1 70 = .ok (.aload_n 0, 1) := by decide +kernel
theorem dX7_comeTo_71 : decode bX7_comeTo.2.1 71 = .ok (.aload_n 0, 1) := by decide +kernel
theorem dX7_comeTo_72 : decode bX7_comeTo.2.1 72 = .ok (.getfield 35, 3) := by decide +kernel
theorem dX7_comeTo_75 : decode bX7_comeTo.2.1 75 = .ok (.getfield 112, 3) := by decide +kernel
theorem dX7_comeTo_78 : decode bX7_comeTo.2.1 78 = .ok (.iload_n 1, 1) := by decide +kernel
theorem dX7_comeTo_79 : decode bX7_comeTo.2.1 79 = .ok (.iaload, 1) := by decide +kernel
theorem dX7_comeTo_80 : decode bX7_comeTo.2.1 80 = .ok (.lload 6, 2) := by decide +kernel
theorem dX7_comeTo_82 : decode bX7_comeTo.2.1 82 = .ok (.invokevirtual 109, 3) := by decide +kernel
theorem dX7_comeTo_85 : decode bX7_comeTo.2.1 85 = .ok (.return_, 1) := by decide +kernel
theorem dX7_say_0 : decode bX7_say.2.1 0 = .ok (.aload_n 0, 1) := by decide +kernel
theorem dX7_say_1 : decode bX7_say.2.1 1 = .ok (.getfield 28, 3) := by decide +kernel
theorem dX7_say_4 : decode bX7_say.2.1 4 = .ok (.iload_n 1, 1) := by decide +kernel
theorem dX7_say_5 : decode bX7_say.2.1 5 = .ok (.dup2, 1) := by decide +kernel
theorem dX7_say_6 : decode bX7_say.2.1 6 = .ok (.laload, 1) := by decide +kernel
theorem dX7_say_7 : decode bX7_say.2.1 7 = .ok (.lload_n 2, 1) := by decide +kernel
theorem dX7_say_8 : decode bX7_say.2.1 8 = .ok (.ladd, 1) := by decide +kernel
theorem dX7_say_9 : decode bX7_say.2.1 9 = .ok (.lastore, 1) := by decide +kernel
theorem dX7_say_10 : decode bX7_say.2.1 10 = .ok (.aload_n 0, 1) := by decide +kernel
theorem dX7_say_11 : decode bX7_say.2.1 11 = .ok (.getfield 31, 3) := by decide +kernel
theorem dX7_say_14 : decode bX7_say.2.1 14 = .ok (.iload_n 1, 1) := by decide +kernel
theorem dX7_say_15 : decode bX7_say.2.1 15 = .ok (.iconst 1, 1) := by decide +kernel
theorem dX7_say_16 : decode bX7_say.2.1 16 = .ok (.iadd, 1) := by decide +kernel
theorem dX7_say_17 : decode bX7_say.2.1 17 = .ok (.invokevirtual 115, 3) := by decide +kernel
theorem dX7_say_20 : decode bX7_say.2.1 20 = .ok (.ifCond .eq 28, 3) := by decide +kernel
theorem dX7_say_23 : decode bX7_say.2.1 23 = .ok (.aload_n 0, 1) := by decide +kernel
theorem dX7_say_24 : decode bX7_say.2.1 24 = .ok (.getfield 22, 3) := by decide +kernel
theorem dX7_say_27 : decode bX7_say.2.1 27 = .ok (.iload_n 1, 1) := by decide +kernel
theorem dX7_say_28 : decode bX7_say.2.1 28 = .ok (.iconst 1, 1) := by decide +kernel
theorem dX7_say_29 : decode bX7_say.2.1 29 = .ok (.iadd, 1) := by decide +kernel
theorem dX7_say_30 : decode bX7_say.2.1 30 = .ok (.dup2, 1) := by decide +kernel
theorem dX7_say_31 : decode bX7_say.2.1 31 = .ok (.laload, 1) := by decide +kernel
theorem dX7_say_32 : decode bX7_say.2.1 32 = .ok (.lload_n 2, 1) := by decide +kernel
theorem dX7_say_33 : decode bX7_say.2.1 33 = .ok (.ladd, 1) := by decide +kernel
theorem dX7_say_34 : decode bX7_say.2.1 34 = .ok (.lastore, 1) := by decide +kernel
theorem dX7_say_35 : decode bX7_say.2.1 35 = .ok (.aload_n 0, 1) := by decide +kernel
theorem dX7_say_36 : decode bX7_say.2.1 36 = .ok (.dup, 1) := by decide +kernel
theorem dX7_say_37 : decode bX7_say.2.1 37 = .ok (.getfield 94, 3) := by decide +kernel
theorem dX7_say_40 : decode bX7_say.2.1 40 = .ok (.lload_n 2, 1) := by decide +kernel
theorem dX7_say_41 : decode bX7_say.2.1 41 = .ok (.ladd, 1) := by decide +kernel
theorem dX7_say_42 : decode bX7_say.2.1 42 = .ok (.putfield 94, 3) := by decide +kernel
theorem dX7_say_45 : decode bX7_say.2.1 45 = .ok (.goto 13, 3) := by decide +kernel
theorem dX7_say_48 : decode bX7_say.2.1 48 = .ok (.aload_n 0, 1) := by decide +kernel
theorem dX7_say_49 : decode bX7_say.2.1 49 = .ok (.dup, 1) := by decide +kernel
theorem dX7_say_50 : decode bX7_say.2.1 50 = .ok (.getfield 46, 3) := by decide +kernel
theorem dX7_say_53 : decode bX7_say.2.1 53 = .ok (.lload_n 2, 1) := by decide +kernel
theorem dX7_say_54 : decode bX7_say.2.1 54 = .ok (.ladd, 1) := by decide +kernel
theorem dX7_say_55 : decode bX7_say.2.1 55 = .ok (.putfield 46, 3) := by decide +kernel
theorem dX7_say_58 : decode bX7_say.2.1 58 = .ok (.return_, 1) := by decide +kernel
theorem dX10_init_0 : decode bX10_init.2.1 0 = .ok (.aload_n 0, 1) := by decide +kernel
theorem dX10_init_1 : decode bX10_init.2.1 1 = .ok (.invokespecial 3, 3) := by decide +kernel
theorem dX10_init_4 : decode bX10_init.2.1 4 = .ok (.aload_n 0, 1) := by decide +kernel
theorem dX10_init_5 : decode bX10_init.2.1 5 = .ok (.sipush 200, 3) := by decide +kernel
theorem dX10_init_8 : decode bX10_init.2.1 8 = .ok (.newarray .int, 2) := by decide +kernel
theorem dX10_init_10 : decode bX10_init.2.1 10 = .ok (.putfield 9, 3) := by decide +kernel
theorem dX10_init_13 : decode bX10_init.2.1 13 = .ok (.aload_n 0, 1) := by decide +kernel
theorem dX10_init_14 : decode bX10_init.2.1 14 = .ok (.aload_n 1, 1) := by decide +kernel
theorem dX10_init_15 : decode bX10_init.2.1 15 = .ok (.putfield 15, 3) := by decide +kernel
theorem dX10_init_18 : decode bX10_init.2.1 18 = .ok (.aload_n 0, 1) := by decide +kernel
theorem dX10_init_19 : decode bX10_init.2.1 19 = .ok (.aload_n 2, 1) := by decide +kernel
theorem dX10_init_20 : decode bX10_init.2.1 20 = .ok (.putfield 19, 3) := by decide +kernel
theorem dX10_init_23 : decode bX10_init.2.1 23 = .ok (.return_, 1) := by decide +kernel
theorem dX10_walk_0 : decode bX10_walk.2.1 0 = .ok (.aload_n 0, 1) := by decide +kernel
theorem dX10_walk_1 : decode bX10_walk.2.1 1 = .ok (.iconst 0, 1) := by decide +kernel
theorem dX10_walk_2 : decode bX10_walk.2.1 2 = .ok (.putfield 23, 3) := by decide +kernel
theorem dX10_walk_5 : decode bX10_walk.2.1 5 = .ok (.aload_n 0, 1) := by decide +kernel
theorem dX10_walk_6 : decode bX10_walk.2.1 6 = .ok (.iconst 0, 1) := by decide +kernel
theorem dX10_walk_7 : decode bX10_walk.2.1 7 = .ok (.putfield 27, 3) := by decide +kernel
theorem dX10_walk_10 : decode bX10_walk.2.1 10 = .ok (.aload_n 0, 1) := by decide +kernel
theorem dX10_walk_11 : decode bX10_walk.2.1 11 = .ok (.iconst 2, 1) := by decide +kernel
theorem dX10_walk_12 : decode bX10_walk.2.1 12 = .ok (.putfield 30, 3) := by decide +kernel
theorem dX10_walk_15 : decode bX10_walk.2.1 15 = .ok (.aload_n 0, 1) := by decide +kernel
theorem dX10_walk_16 : decode bX10_walk.2.1 16 = .ok (.iconst (-1), 1) := by decide +kernel
theorem dX10_walk_17 : decode bX10_walk.2.1 17 = .ok (.putfield 33, 3) := by decide +kernel
theorem dX10_walk_20 : decode bX10_walk.2.1 20 = .ok (.iconst 0, 1) := by decide +kernel
theorem dX10_walk_21 : decode bX10_walk.2.1 21 = .ok (.istore_n 1, 1) := by decide +kernel
theorem dX10_walk_22 : decode bX10_walk.2.1 22 = .ok (.iconst 0, 1) := by decide +kernel
theorem dX10_walk_23 : decode bX10_walk.2.1 23 = .ok (.istore_n 2, 1) := by decide +kernel
theorem dX10_walk_24 : decode bX10_walk.2.1 24 = .ok (.iload_n 2, 1) := by decide +kernel
theorem dX10_walk_25 : decode bX10_walk.2.1 25 = .ok (.sipush 200, 3) := by decide +kernel
theorem dX10_walk_28 : decode bX10_walk.2.1 28 = .ok (.if_icmp .ge 87, 3) := by decide +kernel
theorem dX10_walk_31 : decode bX10_walk.2.1 31 = .ok (.aload_n 0, 1) := by decide +kernel
theorem dX10_walk_32 : decode bX10_walk.2.1 32 = .ok (.getfield 15, 3) := by decide +kernel
theorem dX10_walk_35 : decode bX10_walk.2.1 35 = .ok (.iload_n 1, 1) := by decide +kernel
theorem dX10_walk_36 : decode bX10_walk.2.1 36 = .ok (.invokevirtual 36, 3) := by decide +kernel
theorem dX10_walk_39 : decode bX10_walk.2.1 39 = .ok (.ifCond .eq 76, 3) := by decide +kernel
theorem dX10_walk_42 : decode bX10_walk.2.1 42 = .ok (.aload_n 0, 1) := by decide +kernel
theorem dX10_walk_43 : decode bX10_walk.2.1 43 = .ok (.iload_n 1, 1) := by decide +kernel
theorem dX10_walk_44 : decode bX10_walk.2.1 44 = .ok (.invokevirtual 42, 3) := by decide +kernel
theorem dX10_walk_47 : decode bX10_walk.2.1 47 = .ok (.istore_n 3, 1) := by decide +kernel
theorem dX10_walk_48 : decode bX10_walk.2.1 48 = .ok (.aload_n 0, 1) := by decide +kernel
theorem dX10_walk_49 : decode bX10_walk.2.1 49 = .ok (.getfield 15, 3) := by decide +kernel
theorem dX10_walk_52 : decode bX10_walk.2.1 52 = .ok (.iload_n 3, 1) := by decide +kernel
theorem dX10_walk_53 : decode bX10_walk.2.1 53 = .ok (.invokevirtual 36, 3) := by decide +kernel
theorem dX10_walk_56 : decode bX10_walk.2.1 56 = .ok (.ifCond .ne 14, 3) := by decide +kernel
theorem dX10_walk_59 : decode bX10_walk.2.1 59 = .ok (.aload_n 0, 1) := by decide +kernel
theorem dX10_walk_60 : decode bX10_walk.2.1 60 = .ok (.iconst 1, 1) := by decide +kernel
theorem dX10_walk_61 : decode bX10_walk.2.1 61 = .ok (.putfield 30, 3) := by decide +kernel
theorem dX10_walk_64 : decode bX10_walk.2.1 64 = .ok (.aload_n 0, 1) := by decide +kernel
theorem dX10_walk_65 : decode bX10_walk.2.1 65 = .ok (.iload_n 1, 1) := by decide +kernel
theorem dX10_walk_66 : decode bX10_walk.2.1 66 = .ok (.putfield 33, 3) := by decide +kernel
theorem dX10_walk_69 : decode bX10_walk.2.1 69 = .ok (.return_, 1) := by decide +kernel
theorem dX10_walk_70 : decode bX10_walk.2.1 70 = .ok (.aload_n 0, 1) := by decide +kernel
theorem dX10_walk_71 : decode bX10_walk.2.1 71 = .ok (.getfield 9, 3) := by decide +kernel
theorem dX10_walk_74 : decode bX10_walk.2.1 74 = .ok (.iload_n 2, 1) := by decide +kernel
theorem dX10_walk_75 : decode bX10_walk.2.1 75 = .ok (.iload_n 3, 1) := by decide +kernel
theorem dX10_walk_76 : decode bX10_walk.2.1 76 = .ok (.iastore, 1) := by decide +kernel
theorem dX10_walk_77 : decode bX10_walk.2.1 77 = .ok (.aload_n 0, 1) := by decide +kernel
theorem dX10_walk_78 : decode bX10_walk.2.1 78 = .ok (.dup, 1) := by decide +kernel
theorem dX10_walk_79 : decode bX10_walk.2.1 79 = .ok (.getfield 23, 3) := by decide +kernel
theorem dX10_walk_82 : decode bX10_walk.2.1 82 = .ok (.iconst 1, 1) := by decide +kernel
theorem dX10_walk_83 : decode bX10_walk.2.1 83 = .ok (.iadd, 1) := by decide +kernel
theorem dX10_walk_84 : decode bX10_walk.2.1 84 = .ok (.putfield 23, 3) := by decide +kernel
theorem dX10_walk_87 : decode bX10_walk.2.1 87 = .ok (.aload_n 0, 1) := by decide +kernel
theorem dX10_walk_88 : decode bX10_walk.2.1 88 = .ok (.dup, 1) := by decide +kernel
theorem dX10_walk_89 : decode bX10_walk.2.1 89 = .ok (.getfield 27, 3) := by decide +kernel
theorem dX10_walk_92 : decode bX10_walk.2.1 92 = .ok (.aload_n 0, 1) := by decide +kernel
theorem dX10_walk_93 : decode bX10_walk.2.1 93 = .ok (.getfield 15, 3) := by decide +kernel
theorem dX10_walk_96 : decode bX10_walk.2.1 96 = .ok (.getfield 46, 3) := by decide +kernel
theorem dX10_walk_99 : decode bX10_walk.2.1 99 = .ok (.iload_n 3, 1) := by decide +kernel
theorem dX10_walk_100 : decode bX10_walk.2.1 100 = .ok (.iaload, 1) := by decide +kernel
theorem dX10_walk_101 : decode bX10_walk.2.1 101 = .ok (.iadd, 1) := by decide +kernel
theorem dX10_walk_102 : decode bX10_walk.2.1 102 = .ok (.putfield 27, 3) := by decide +kernel
theorem dX10_walk_105 : decode bX10_walk.2.1 105 = .ok (.iload_n 3, 1) := by decide +kernel
theorem dX10_walk_106 : decode bX10_walk.2.1 106 = .ok (.iconst 1, 1) := by decide +kernel
theorem dX10_walk_107 : decode bX10_walk.2.1 107 = .ok (.iadd, 1) := by decide +kernel
theorem dX10_walk_108 : decode bX10_walk.2.1 108 = .ok (.istore_n 1, 1) := by decide +kernel
theorem dX10_walk_109 : decode bX10_walk.2.1 109 = .ok (.iinc 2 1, 3) := by decide +kernel
theorem dX10_walk_112 : decode bX10_walk.2.1 112 = .ok (.goto (-88), 3) := by decide +kernel
theorem dX10_walk_115 : decode bX10_walk.2.1 115 = .ok (.aload_n 0, 1) := by decide +kernel
theorem dX10_walk_116 : decode bX10_walk.2.1 116 = .ok (.getfield 15, 3) := by decide +kernel
theorem dX10_walk_119 : decode bX10_walk.2.1 119 = .ok (.iload_n 1, 1) := by decide +kernel
theorem dX10_walk_120 : decode bX10_walk.2.1 120 = .ok (.invokevirtual 36, 3) := by decide +kernel
theorem dX10_walk_123 : decode bX10_walk.2.1 123 = .ok (.ifCond .ne 8, 3) := by decide +kernel
theorem dX10_walk_126 : decode bX10_walk.2.1 126 = .ok (.aload_n 0, 1) := by decide +kernel
theorem dX10_walk_127 : decode bX10_walk.2.1 127 = .ok (.iconst 0, 1) := by decide +kernel
theorem dX10_walk_128 : decode bX10_walk.2.1 128 = .ok (.putfield 30, 3) := by decide +kernel
theorem dX10_walk_131 : decode bX10_walk.2.1 131 = .ok (.return_, 1) := by decide +kernel
