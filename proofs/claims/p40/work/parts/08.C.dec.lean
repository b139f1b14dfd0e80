theorem dX8_init_0 : decode bX8_init.2.1 0 = .ok (.aload_n 0, 1) := by decide +kernel
theorem dX8_init_1 : decode bX8_init.2.1 1 = .ok (.invokespecial 3, 3) := by decide +kernel
theorem dX8_init_4 : decode bX8_init.2.1 4 = .ok (.aload_n 0, 1) := by decide +kernel
theorem dX8_init_5 : decode bX8_init.2.1 5 = .ok (.bipush 24, 2) := by decide +kernel
theorem dX8_init_7 : decode bX8_init.2.1 7 = .ok (.newarray .int, 2) := by decide +kernel
theorem dX8_init_9 : decode bX8_init.2.1 9 = .ok (.putfield 9, 3) := by decide +kernel
theorem dX8_init_12 : decode bX8_init.2.1 12 = .ok (.aload_n 0, 1) := by decide +kernel
theorem dX8_init_13 : decode bX8_init.2.1 13 = .ok (.bipush 24, 2) := by decide +kernel
theorem dX8_init_15 : decode bX8_init.2.1 15 = .ok (.newarray .int, 2) := by decide +kernel
theorem dX8_init_17 : decode bX8_init.2.1 17 = .ok (.putfield 15, 3) := by decide +kernel
theorem dX8_init_20 : decode bX8_init.2.1 20 = .ok (.aload_n 0, 1) := by decide +kernel
theorem dX8_init_21 : decode bX8_init.2.1 21 = .ok (.bipush 24, 2) := by decide +kernel
theorem dX8_init_23 : decode bX8_init.2.1 23 = .ok (.newarray .int, 2) := by decide +kernel
theorem dX8_init_25 : decode bX8_init.2.1 25 = .ok (.putfield 18, 3) := by decide +kernel
theorem dX8_init_28 : decode bX8_init.2.1 28 = .ok (.aload_n 0, 1) := by decide +kernel
theorem dX8_init_29 : decode bX8_init.2.1 29 = .ok (.bipush 24, 2) := by decide +kernel
theorem dX8_init_31 : decode bX8_init.2.1 31 = .ok (.newarray .int, 2) := by decide +kernel
theorem dX8_init_33 : decode bX8_init.2.1 33 = .ok (.putfield 21, 3) := by decide +kernel
theorem dX8_init_36 : decode bX8_init.2.1 36 = .ok (.aload_n 0, 1) := by decide +kernel
theorem dX8_init_37 : decode bX8_init.2.1 37 = .ok (.bipush 24, 2) := by decide +kernel
theorem dX8_init_39 : decode bX8_init.2.1 39 = .ok (.newarray .int, 2) := by decide +kernel
theorem dX8_init_41 : decode bX8_init.2.1 41 = .ok (.putfield 24, 3) := by decide +kernel
theorem dX8_init_44 : decode bX8_init.2.1 44 = .ok (.aload_n 0, 1) := by decide +kernel
theorem dX8_init_45 : decode bX8_init.2.1 45 = .ok (.bipush 24, 2) := by decide +kernel
theorem dX8_init_47 : decode bX8_init.2.1 47 = .ok (.newarray .int, 2) := by decide +kernel
theorem dX8_init_49 : decode bX8_init.2.1 49 = .ok (.putfield 27, 3) := by decide +kernel
theorem dX8_init_52 : decode bX8_init.2.1 52 = .ok (.aload_n 0, 1) := by decide +kernel
theorem dX8_init_53 : decode bX8_init.2.1 53 = .ok (.bipush 24, 2) := by decide +kernel
theorem dX8_init_55 : decode bX8_init.2.1 55 = .ok (.newarray .int, 2) := by decide +kernel
theorem dX8_init_57 : decode bX8_init.2.1 57 = .ok (.putfield 30, 3) := by decide +kernel
theorem dX8_init_60 : decode bX8_init.2.1 60 = .ok (.aload_n 0, 1) := by decide +kernel
theorem dX8_init_61 : decode bX8_init.2.1 61 = .ok (.bipush 24, 2) := by decide +kernel
theorem dX8_init_63 : decode bX8_init.2.1 63 = .ok (.newarray .int, 2) := by decide +kernel
theorem dX8_init_65 : decode bX8_init.2.1 65 = .ok (.putfield 33, 3) := by decide +kernel
theorem dX8_init_68 : decode bX8_init.2.1 68 = .ok (.aload_n 0, 1) := by decide +kernel
theorem dX8_init_69 : decode bX8_init.2.1 69 = .ok (.bipush 24, 2) := by decide +kernel
theorem dX8_init_71 : decode bX8_init.2.1 71 = .ok (.newarray .int, 2) := by decide +kernel
theorem dX8_init_73 : decode bX8_init.2.1 73 = .ok (.putfield 36, 3) := by decide +kernel
theorem dX8_init_76 : decode bX8_init.2.1 76 = .ok (.aload_n 0, 1) := by decide +kernel
theorem dX8_init_77 : decode bX8_init.2.1 77 = .ok (.bipush 8, 2) := by decide +kernel
theorem dX8_init_79 : decode bX8_init.2.1 79 = .ok (.newarray .int, 2) := by decide +kernel
theorem dX8_init_81 : decode bX8_init.2.1 81 = .ok (.putfield 39, 3) := by decide +kernel
theorem dX8_init_84 : decode bX8_init.2.1 84 = .ok (.aload_n 0, 1) := by decide +kernel
theorem dX8_init_85 : decode bX8_init.2.1 85 = .ok (.sipush 256, 3) := by decide +kernel
theorem dX8_init_88 : decode bX8_init.2.1 88 = .ok (.newarray .int, 2) := by decide +kernel
theorem dX8_init_90 : decode bX8_init.2.1 90 = .ok (.putfield 42, 3) := by decide +kernel
theorem dX8_init_93 : decode bX8_init.2.1 93 = .ok (.return_, 1) := by decide +kernel
theorem dX8_put_0 : decode bX8_put.2.1 0 = .ok (.aload_n 0, 1) := by decide +kernel
theorem dX8_put_1 : decode bX8_put.2.1 1 = .ok (.aload_n 1, 1) := by decide +kernel
theorem dX8_put_2 : decode bX8_put.2.1 2 = .ok (.getfield 45, 3) := by decide +kernel
theorem dX8_put_5 : decode bX8_put.2.1 5 = .ok (.bipush 24, 2) := by decide +kernel
theorem dX8_put_7 : decode bX8_put.2.1 7 = .ok (.invokestatic 51, 3) := by decide +kernel
theorem dX8_put_10 : decode bX8_put.2.1 10 = .ok (.putfield 57, 3) := by decide +kernel
theorem dX8_put_13 : decode bX8_put.2.1 13 = .ok (.aload_n 0, 1) := by decide +kernel
theorem dX8_put_14 : decode bX8_put.2.1 14 = .ok (.iconst 0, 1) := by decide +kernel
theorem dX8_put_15 : decode bX8_put.2.1 15 = .ok (.putfield 60, 3) := by decide +kernel
theorem dX8_put_18 : decode bX8_put.2.1 18 = .ok (.iconst 0, 1) := by decide +kernel
theorem dX8_put_19 : decode bX8_put.2.1 19 = .ok (.istore_n 2, 1) := by decide +kernel
theorem dX8_put_20 : decode bX8_put.2.1 20 = .ok (.iload_n 2, 1) := by decide +kernel
theorem dX8_put_21 : decode bX8_put.2.1 21 = .ok (.aload_n 0, 1) := by decide +kernel
theorem dX8_put_22 : decode bX8_put.2.1 22 = .ok (.getfield 57, 3) := by decide +kernel
theorem dX8_put_25 : decode bX8_put.2.1 25 = .ok (.if_icmp .ge 131, 3) := by decide +kernel
theorem dX8_put_28 : decode bX8_put.2.1 28 = .ok (.aload_n 1, 1) := by decide +kernel
theorem dX8_put_29 : decode bX8_put.2.1 29 = .ok (.getfield 63, 3) := by decide +kernel
theorem dX8_put_32 : decode bX8_put.2.1 32 = .ok (.iload_n 2, 1) := by decide +kernel
theorem dX8_put_33 : decode bX8_put.2.1 33 = .ok (.baload, 1) := by decide +kernel
theorem dX8_put_34 : decode bX8_put.2.1 34 = .ok (.ifCond .ne 116, 3) := by decide +kernel
theorem dX8_put_37 : decode bX8_put.2.1 37 = .ok (.aload_n 0, 1) := by decide +kernel
theorem dX8_put_38 : decode bX8_put.2.1 38 = .ok (.getfield 9, 3) := by decide +kernel
theorem dX8_put_41 : decode bX8_put.2.1 41 = .ok (.aload_n 0, 1) := by decide +kernel
theorem dX8_put_42 : decode bX8_put.2.1 42 = .ok (.getfield 60, 3) := by decide +kernel
theorem dX8_put_45 : decode bX8_put.2.1 45 = .ok (.aload_n 1, 1) := by decide +kernel
theorem dX8_put_46 : decode bX8_put.2.1 46 = .ok (.getfield 67, 3) := by decide +kernel
theorem dX8_put_49 : decode bX8_put.2.1 49 = .ok (.iload_n 2, 1) := by decide +kernel
theorem dX8_put_50 : decode bX8_put.2.1 50 = .ok (.iaload, 1) := by decide +kernel
theorem dX8_put_51 : decode bX8_put.2.1 51 = .ok (.iastore, 1) := by decide +kernel
theorem dX8_put_52 : decode bX8_put.2.1 52 = .ok (.aload_n 0, 1) := by decide +kernel
theorem dX8_put_53 : decode bX8_put.2.1 53 = .ok (.getfield 15, 3) := by decide +kernel
theorem dX8_put_56 : decode bX8_put.2.1 56 = .ok (.aload_n 0, 1) := by decide +kernel
theorem dX8_put_57 : decode bX8_put.2.1 57 = .ok (.getfield 60, 3) := by decide +kernel
theorem dX8_put_60 : decode bX8_put.2.1 60 = .ok (.aload_n 1, 1) := by decide +kernel
theorem dX8_put_61 : decode bX8_put.2.1 61 = .ok (.getfield 68, 3) := by decide +kernel
theorem dX8_put_64 : decode bX8_put.2.1 64 = .ok (.iload_n 2, 1) := by decide +kernel
theorem dX8_put_65 : decode bX8_put.2.1 65 = .ok (.iaload, 1) := by decide +kernel
theorem dX8_put_66 : decode bX8_put.2.1 66 = .ok (.iastore, 1) := by decide +kernel
theorem dX8_put_67 : decode bX8_put.2.1 67 = .ok (.aload_n 0, 1) := by decide +kernel
theorem dX8_put_68 : decode bX8_put.2.1 68 = .ok (.getfield 18, 3) := by decide +kernel
theorem dX8_put_71 : decode bX8_put.2.1 71 = .ok (.aload_n 0, 1) := by decide +kernel
theorem dX8_put_72 : decode bX8_put.2.1 72 = .ok (.getfield 60, 3) := by decide +kernel
theorem dX8_put_75 : decode bX8_put.2.1 75 = .ok (.aload_n 1, 1) := by decide +kernel
theorem dX8_put_76 : decode bX8_put.2.1 76 = .ok (.getfield 69, 3) := by decide +kernel
theorem dX8_put_79 : decode bX8_put.2.1 79 = .ok (.iload_n 2, 1) := by decide +kernel
theorem dX8_put_80 : decode bX8_put.2.1 80 = .ok (.iaload, 1) := by decide +kernel
theorem dX8_put_81 : decode bX8_put.2.1 81 = .ok (.iastore, 1) := by decide +kernel
theorem dX8_put_82 : decode bX8_put.2.1 82 = .ok (.aload_n 0, 1) := by decide +kernel
theorem dX8_put_83 : decode bX8_put.2.1 83 = .ok (.getfield 21, 3) := by decide +kernel
theorem dX8_put_86 : decode bX8_put.2.1 86 = .ok (.aload_n 0, 1) := by decide +kernel
theorem dX8_put_87 : decode bX8_put.2.1 87 = .ok (.getfield 60, 3) := by decide +kernel
theorem dX8_put_90 : decode bX8_put.2.1 90 = .ok (.iload_n 2, 1) := by decide +kernel
theorem dX8_put_91 : decode bX8_put.2.1 91 = .ok (.iastore, 1) := by decide +kernel
theorem dX8_put_92 : decode bX8_put.2.1 92 = .ok (.aload_n 0, 1) := by decide +kernel
theorem dX8_put_93 : decode bX8_put.2.1 93 = .ok (.getfield 24, 3) := by decide +kernel
theorem dX8_put_96 : decode bX8_put.2.1 96 = .ok (.aload_n 0, 1) := by decide +kernel
theorem dX8_put_97 : decode bX8_put.2.1 97 = .ok (.getfield 60, 3) := by decide +kernel
theorem dX8_put_100 : decode bX8_put.2.1 100 = .ok (.aload_n 0, 1) := by decide +kernel
theorem dX8_put_101 : decode bX8_put.2.1 101 = .ok (.getfield 60, 3) := by decide +kernel
theorem dX8_put_104 : decode bX8_put.2.1 104 = .ok (.ifCond .ne 7, 3) := by decide +kernel
theorem dX8_put_107 : decode bX8_put.2.1 107 = .ok (.iconst (-1), 1) := by decide +kernel
theorem dX8_put_108 : decode bX8_put.2.1 108 = .ok (.goto 14, 3) := by decide +kernel
theorem dX8_put_111 : decode bX8_put.2.1 111 = .ok (.aload_n 0, 1) := by decide +kernel
theorem dX8_put_112 : decode bX8_put.2.1 112 = .ok (.getfield 15, 3) := by decide +kernel
theorem dX8_put_115 : decode bX8_put.2.1 115 = .ok (.aload_n 0, 1) := by decide +kernel
theorem dX8_put_116 : decode bX8_put.2.1 116 = .ok (.getfield 60, 3) := by decide +kernel
theorem dX8_put_119 : decode bX8_put.2.1 119 = .ok (.iconst 1, 1) := by decide +kernel
theorem dX8_put_120 : decode bX8_put.2.1 120 = .ok (.isub, 1) := by decide +kernel
theorem dX8_put_121 : decode bX8_put.2.1 121 = .ok (.iaload, 1) := by decide +kernel
theorem dX8_put_122 : decode bX8_put.2.1 122 = .ok (.iastore, 1) := by decide +kernel
theorem dX8_put_123 : decode bX8_put.2.1 123 = .ok (.aload_n 0, 1) := by decide +kernel
theorem dX8_put_124 : decode bX8_put.2.1 124 = .ok (.getfield 27, 3) := by decide +kernel
theorem dX8_put_127 : decode bX8_put.2.1 127 = .ok (.aload_n 0, 1) := by decide +kernel
theorem dX8_put_128 : decode bX8_put.2.1 128 = .ok (.getfield 60, 3) := by decide +kernel
theorem dX8_put_131 : decode bX8_put.2.1 131 = .ok (.aload_n 0, 1) := by decide +kernel
theorem dX8_put_132 : decode bX8_put.2.1 132 = .ok (.aload_n 0, 1) := by decide +kernel
theorem dX8_put_133 : decode bX8_put.2.1 133 = .ok (.getfield 60, 3) := by decide +kernel
theorem dX8_put_136 : decode bX8_put.2.1 136 = .ok (.invokevirtual 70, 3) := by decide +kernel
theorem dX8_put_139 : decode bX8_put.2.1 139 = .ok (.iastore, 1) := by decide +kernel
theorem dX8_put_140 : decode bX8_put.2.1 140 = .ok (.aload_n 0, 1) := by decide +kernel
theorem dX8_put_141 : decode bX8_put.2.1 141 = .ok (.dup, 1) := by decide +kernel
theorem dX8_put_142 : decode bX8_put.2.1 142 = .ok (.getfield 60, 3) := by decide +kernel
theorem dX8_put_145 : decode bX8_put.2.1 145 = .ok (.iconst 1, 1) := by decide +kernel
theorem dX8_put_146 : decode bX8_put.2.1 146 = .ok (.iadd, 1) := by decide +kernel
theorem dX8_put_147 : decode bX8_put.2.1 147 = .ok (.putfield 60, 3) := by decide +kernel
theorem dX8_put_150 : decode bX8_put.2.1 150 = .ok (.iinc 2 1, 3) := by decide +kernel
theorem dX8_put_153 : decode bX8_put.2.1 153 = .ok (.goto (-133), 3) := by decide +kernel
theorem dX8_put_156 : decode bX8_put.2.1 156 = .ok (.iconst 0, 1) := by decide +kernel
theorem dX8_put_157 : decode bX8_put.2.1 157 = .ok (.istore_n 2, 1) := by decide +kernel
theorem dX8_put_158 : decode bX8_put.2.1 158 = .ok (.iload_n 2, 1) := by decide +kernel
theorem dX8_put_159 : decode bX8_put.2.1 159 = .ok (.aload_n 0, 1) := by decide +kernel
theorem dX8_put_160 : decode bX8_put.2.1 160 = .ok (.getfield 60, 3) := by decide +kernel
theorem dX8_put_163 : decode bX8_put.2.1 163 = .ok (.if_icmp .ge 20, 3) := by decide +kernel
theorem dX8_put_166 : decode bX8_put.2.1 166 = .ok (.aload_n 0, 1) := by decide +kernel
theorem dX8_put_167 : decode bX8_put.2.1 167 = .ok (.getfield 30, 3) := by decide +kernel
theorem dX8_put_170 : decode bX8_put.2.1 170 = .ok (.iload_n 2, 1) := by decide +kernel
theorem dX8_put_171 : decode bX8_put.2.1 171 = .ok (.aload_n 0, 1) := by decide +kernel
theorem dX8_put_172 : decode bX8_put.2.1 172 = .ok (.iload_n 2, 1) := by decide +kernel
theorem dX8_put_173 : decode bX8_put.2.1 173 = .ok (.invokevirtual 74, 3) := by decide +kernel
theorem dX8_put_176 : decode bX8_put.2.1 176 = .ok (.iastore, 1) := by decide +kernel
theorem dX8_put_177 : decode bX8_put.2.1 177 = .ok (.iinc 2 1, 3) := by decide +kernel
theorem dX8_put_180 : decode bX8_put.2.1 180 = .ok (.goto (-22), 3) := by decide +kernel
theorem dX8_put_183 : decode bX8_put.2.1 183 = .ok (.return_, 1) := by decide +kernel
theorem dX8_gapOf_0 : decode bX8_gapOf.2.1 0 = .ok (.iload_n 1, 1) := by decide +kernel
theorem dX8_gapOf_1 : decode bX8_gapOf.2.1 1 = .ok (.iconst 1, 1) := by decide +kernel
theorem dX8_gapOf_2 : decode bX8_gapOf.2.1 2 = .ok (.isub, 1) := by decide +kernel
theorem dX8_gapOf_3 : decode bX8_gapOf.2.1 3 = .ok (.istore_n 2, 1) := by decide +kernel
theorem dX8_gapOf_4 : decode bX8_gapOf.2.1 4 = .ok (.iload_n 2, 1) := by decide +kernel
theorem dX8_gapOf_5 : decode bX8_gapOf.2.1 5 = .ok (.ifCond .lt 30, 3) := by decide +kernel
theorem dX8_gapOf_8 : decode bX8_gapOf.2.1 8 = .ok (.aload_n 0, 1) := by decide +kernel
theorem dX8_gapOf_9 : decode bX8_gapOf.2.1 9 = .ok (.getfield 9, 3) := by decide +kernel
theorem dX8_gapOf_12 : decode bX8_gapOf.2.1 12 = .ok (.iload_n 2, 1) := by decide +kernel
theorem dX8_gapOf_13 : decode bX8_gapOf.2.1 13 = .ok (.iaload, 1) := by decide +kernel
theorem dX8_gapOf_14 : decode bX8_gapOf.2.1 14 = .ok (.aload_n 0, 1) := by decide +kernel
theorem dX8_gapOf_15 : decode bX8_gapOf.2.1 15 = .ok (.getfield 9, 3) := by decide +kernel
theorem dX8_gapOf_18 : decode bX8_gapOf.2.1 18 = .ok (.iload_n 1, 1) := by decide +kernel
theorem dX8_gapOf_19 : decode bX8_gapOf.2.1 19 = .ok (.iaload, 1) := by decide +kernel
theorem dX8_gapOf_20 : decode bX8_gapOf.2.1 20 = .ok (.if_icmp .ne 9, 3) := by decide +kernel
theorem dX8_gapOf_23 : decode bX8_gapOf.2.1 23 = .ok (.iload_n 1, 1) := by decide +kernel
theorem dX8_gapOf_24 : decode bX8_gapOf.2.1 24 = .ok (.iload_n 2, 1) := by decide +kernel
theorem dX8_gapOf_25 : decode bX8_gapOf.2.1 25 = .ok (.isub, 1) := by decide +kernel
theorem dX8_gapOf_26 : decode bX8_gapOf.2.1 26 = .ok (.iconst 1, 1) := by decide +kernel
theorem dX8_gapOf_27 : decode bX8_gapOf.2.1 27 = .ok (.isub, 1) := by decide +kernel
theorem dX8_gapOf_28 : decode bX8_gapOf.2.1 28 = .ok (.ireturn, 1) := by decide +kernel
theorem dX8_gapOf_29 : decode bX8_gapOf.2.1 29 = .ok (.iinc 2 (-1), 3) := by decide +kernel
theorem dX8_gapOf_32 : decode bX8_gapOf.2.1 32 = .ok (.goto (-28), 3) := by decide +kernel
theorem dX8_gapOf_35 : decode bX8_gapOf.2.1 35 = .ok (.iload_n 1, 1) := by decide +kernel
theorem dX8_gapOf_36 : decode bX8_gapOf.2.1 36 = .ok (.ireturn, 1) := by decide +kernel
theorem dX8_likesOf_0 : decode bX8_likesOf.2.1 0 = .ok (.iconst 0, 1) := by decide +kernel
theorem dX8_likesOf_1 : decode bX8_likesOf.2.1 1 = .ok (.istore_n 2, 1) := by decide +kernel
theorem dX8_likesOf_2 : decode bX8_likesOf.2.1 2 = .ok (.iconst 0, 1) := by decide +kernel
theorem dX8_likesOf_3 : decode bX8_likesOf.2.1 3 = .ok (.istore_n 3, 1) := by decide +kernel
theorem dX8_likesOf_4 : decode bX8_likesOf.2.1 4 = .ok (.iload_n 3, 1) := by decide +kernel
theorem dX8_likesOf_5 : decode bX8_likesOf.2.1 5 = .ok (.aload_n 0, 1) := by decide +kernel
theorem dX8_likesOf_6 : decode bX8_likesOf.2.1 6 = .ok (.getfield 60, 3) := by decide +kernel
theorem dX8_likesOf_9 : decode bX8_likesOf.2.1 9 = .ok (.if_icmp .ge 26, 3) := by decide +kernel
theorem dX8_likesOf_12 : decode bX8_likesOf.2.1 12 = .ok (.iload_n 2, 1) := by decide +kernel
theorem dX8_likesOf_13 : decode bX8_likesOf.2.1 13 = .ok (.aload_n 0, 1) := by decide +kernel
theorem dX8_likesOf_14 : decode bX8_likesOf.2.1 14 = .ok (.iload_n 3, 1) := by decide +kernel
theorem dX8_likesOf_15 : decode bX8_likesOf.2.1 15 = .ok (.iload_n 1, 1) := by decide +kernel
theorem dX8_likesOf_16 : decode bX8_likesOf.2.1 16 = .ok (.invokevirtual 77, 3) := by decide +kernel
theorem dX8_likesOf_19 : decode bX8_likesOf.2.1 19 = .ok (.ifCond .eq 7, 3) := by decide +kernel
theorem dX8_likesOf_22 : decode bX8_likesOf.2.1 22 = .ok (.iconst 1, 1) := by decide +kernel
theorem dX8_likesOf_23 : decode bX8_likesOf.2.1 23 = .ok (.goto 4, 3) := by decide +kernel
theorem dX8_likesOf_26 : decode bX8_likesOf.2.1 26 = .ok (.iconst 0, 1) := by decide +kernel
theorem dX8_likesOf_27 : decode bX8_likesOf.2.1 27 = .ok (.iadd, 1) := by decide +kernel
theorem dX8_likesOf_28 : decode bX8_likesOf.2.1 28 = .ok (.istore_n 2, 1) := by decide +kernel
theorem dX8_likesOf_29 : decode bX8_likesOf.2.1 29 = .ok (.iinc 3 1, 3) := by decide +kernel
theorem dX8_likesOf_32 : decode bX8_likesOf.2.1 32 = .ok (.goto (-28), 3) := by decide +kernel
theorem dX8_likesOf_35 : decode bX8_likesOf.2.1 35 = .ok (.iload_n 2, 1) := by decide +kernel
theorem dX8_likesOf_36 : decode bX8_likesOf.2.1 36 = .ok (.ireturn, 1) := by decide +kernel
theorem dX8_has_0 : decode bX8_has.2.1 0 = .ok (.iload_n 1, 1) := by decide +kernel
theorem dX8_has_1 : decode bX8_has.2.1 1 = .ok (.ifCond .lt 15, 3) := by decide +kernel
theorem dX8_has_4 : decode bX8_has.2.1 4 = .ok (.iload_n 1, 1) := by decide +kernel
theorem dX8_has_5 : decode bX8_has.2.1 5 = .ok (.aload_n 0, 1) := by decide +kernel
theorem dX8_has_6 : decode bX8_has.2.1 6 = .ok (.getfield 60, 3) := by decide +kernel
theorem dX8_has_9 : decode bX8_has.2.1 9 = .ok (.if_icmp .ge 7, 3) := by decide +kernel
theorem dX8_has_12 : decode bX8_has.2.1 12 = .ok (.iconst 1, 1) := by decide +kernel
theorem dX8_has_13 : decode bX8_has.2.1 13 = .ok (.goto 4, 3) := by decide +kernel
theorem dX8_has_16 : decode bX8_has.2.1 16 = .ok (.iconst 0, 1) := by decide +kernel
theorem dX8_has_17 : decode bX8_has.2.1 17 = .ok (.ireturn, 1) := by decide +kernel
theorem dX8_hasAll_0 : decode bX8_hasAll.2.1 0 = .ok (.aload_n 0, 1) := by decide +kernel
theorem dX8_hasAll_1 : decode bX8_hasAll.2.1 1 = .ok (.getfield 60, 3) := by decide +kernel
theorem dX8_hasAll_4 : decode bX8_hasAll.2.1 4 = .ok (.ifCond .le 20, 3) := by decide +kernel
theorem dX8_hasAll_7 : decode bX8_hasAll.2.1 7 = .ok (.iload_n 1, 1) := by decide +kernel
theorem dX8_hasAll_8 : decode bX8_hasAll.2.1 8 = .ok (.ifCond .lt 16, 3) := by decide +kernel
theorem dX8_hasAll_11 : decode bX8_hasAll.2.1 11 = .ok (.iload_n 1, 1) := by decide +kernel
theorem dX8_hasAll_12 : decode bX8_hasAll.2.1 12 = .ok (.aload_n 0, 1) := by decide +kernel
theorem dX8_hasAll_13 : decode bX8_hasAll.2.1 13 = .ok (.getfield 60, 3) := by decide +kernel
theorem dX8_hasAll_16 : decode bX8_hasAll.2.1 16 = .ok (.ishr, 1) := by decide +kernel
theorem dX8_hasAll_17 : decode bX8_hasAll.2.1 17 = .ok (.ifCond .ne 7, 3) := by decide +kernel
theorem dX8_hasAll_20 : decode bX8_hasAll.2.1 20 = .ok (.iconst 1, 1) := by decide +kernel
theorem dX8_hasAll_21 : decode bX8_hasAll.2.1 21 = .ok (.goto 4, 3) := by decide +kernel
theorem dX8_hasAll_24 : decode bX8_hasAll.2.1 24 = .ok (.iconst 0, 1) := by decide +kernel
theorem dX8_hasAll_25 : decode bX8_hasAll.2.1 25 = .ok (.ireturn, 1) := by decide +kernel
theorem dX8_actors_0 : decode bX8_actors.2.1 0 = .ok (.iconst 0, 1) := by decide +kernel
theorem dX8_actors_1 : decode bX8_actors.2.1 1 = .ok (.istore_n 1, 1) := by decide +kernel
theorem dX8_actors_2 : decode bX8_actors.2.1 2 = .ok (.iconst 0, 1) := by decide +kernel
theorem dX8_actors_3 : decode bX8_actors.2.1 3 = .ok (.istore_n 2, 1) := by decide +kernel
theorem dX8_actors_4 : decode bX8_actors.2.1 4 = .ok (.iload_n 2, 1) := by decide +kernel
theorem dX8_actors_5 : decode bX8_actors.2.1 5 = .ok (.aload_n 0, 1) := by decide +kernel
theorem dX8_actors_6 : decode bX8_actors.2.1 6 = .ok (.getfield 60, 3) := by decide +kernel
theorem dX8_actors_9 : decode bX8_actors.2.1 9 = .ok (.if_icmp .ge 20, 3) := by decide +kernel
theorem dX8_actors_12 : decode bX8_actors.2.1 12 = .ok (.iload_n 1, 1) := by decide +kernel
theorem dX8_actors_13 : decode bX8_actors.2.1 13 = .ok (.iconst 1, 1) := by decide +kernel
theorem dX8_actors_14 : decode bX8_actors.2.1 14 = .ok (.aload_n 0, 1) := by decide +kernel
theorem dX8_actors_15 : decode bX8_actors.2.1 15 = .ok (.getfield 9, 3) := by decide +kernel
theorem dX8_actors_18 : decode bX8_actors.2.1 18 = .ok (.iload_n 2, 1) := by decide +kernel
theorem dX8_actors_19 : decode bX8_actors.2.1 19 = .ok (.iaload, 1) := by decide +kernel
theorem dX8_actors_20 : decode bX8_actors.2.1 20 = .ok (.ishl, 1) := by decide +kernel
theorem dX8_actors_21 : decode bX8_actors.2.1 21 = .ok (.ior, 1) := by decide +kernel
theorem dX8_actors_22 : decode bX8_actors.2.1 22 = .ok (.istore_n 1, 1) := by decide +kernel
theorem dX8_actors_23 : decode bX8_actors.2.1 23 = .ok (.iinc 2 1, 3) := by decide +kernel
theorem dX8_actors_26 : decode bX8_actors.2.1 26 = .ok (.goto (-22), 3) := by decide +kernel
theorem dX8_actors_29 : decode bX8_actors.2.1 29 = .ok (.iload_n 1, 1) := by decide +kernel
theorem dX8_actors_30 : decode bX8_actors.2.1 30 = .ok (.ireturn, 1) := by decide +kernel
theorem dX8_hasActor_0 : decode bX8_hasActor.2.1 0 = .ok (.iload_n 1, 1) := by decide +kernel
theorem dX8_hasActor_1 : decode bX8_hasActor.2.1 1 = .ok (.ifCond .lt 24, 3) := by decide +kernel
theorem dX8_hasActor_4 : decode bX8_hasActor.2.1 4 = .ok (.iload_n 1, 1) := by decide +kernel
theorem dX8_hasActor_5 : decode bX8_hasActor.2.1 5 = .ok (.bipush 8, 2) := by decide +kernel
theorem dX8_hasActor_7 : decode bX8_hasActor.2.1 7 = .ok (.if_icmp .ge 18, 3) := by decide +kernel
theorem dX8_hasActor_10 : decode bX8_hasActor.2.1 10 = .ok (.aload_n 0, 1) := by decide +kernel
theorem dX8_hasActor_11 : decode bX8_hasActor.2.1 11 = .ok (.invokevirtual 81, 3) := by decide +kernel
theorem dX8_hasActor_14 : decode bX8_hasActor.2.1 14 = .ok (.iload_n 1, 1) := by decide +kernel
theorem dX8_hasActor_15 : decode bX8_hasActor.2.1 15 = .ok (.ishr, 1) := by decide +kernel
theorem dX8_hasActor_16 : decode bX8_hasActor.2.1 16 = .ok (.iconst 1, 1) := by decide +kernel
theorem dX8_hasActor_17 : decode bX8_hasActor.2.1 17 = .ok (.iand, 1) := by decide +kernel
theorem dX8_hasActor_18 : decode bX8_hasActor.2.1 18 = .ok (.ifCond .eq 7, 3) := by decide +kernel
theorem dX8_hasActor_21 : decode bX8_hasActor.2.1 21 = .ok (.iconst 1, 1) := by decide +kernel
theorem dX8_hasActor_22 : decode bX8_hasActor.2.1 22 = .ok (.goto 4, 3) := by decide +kernel
theorem dX8_hasActor_25 : decode bX8_hasActor.2.1 25 = .ok (.iconst 0, 1) := by decide +kernel
theorem dX8_hasActor_26 : decode bX8_hasActor.2.1 26 = .ok (.ireturn, 1) := by decide +kernel
theorem dX8_alike_0 : decode bX8_alike.2.1 0 = .ok (.aload_n 0, 1) := by decide +kernel
theorem dX8_alike_1 : decode bX8_alike.2.1 1 = .ok (.iload_n 1, 1) := by decide +kernel
theorem dX8_alike_2 : decode bX8_alike.2.1 2 = .ok (.invokevirtual 85, 3) := by decide +kernel
theorem dX8_alike_5 : decode bX8_alike.2.1 5 = .ok (.ifCond .eq 60, 3) := by decide +kernel
theorem dX8_alike_8 : decode bX8_alike.2.1 8 = .ok (.aload_n 0, 1) := by decide +kernel
theorem dX8_alike_9 : decode bX8_alike.2.1 9 = .ok (.iload_n 2, 1) := by decide +kernel
theorem dX8_alike_10 : decode bX8_alike.2.1 10 = .ok (.invokevirtual 85, 3) := by decide +kernel
theorem dX8_alike_13 : decode bX8_alike.2.1 13 = .ok (.ifCond .eq 52, 3) := by decide +kernel
theorem dX8_alike_16 : decode bX8_alike.2.1 16 = .ok (.iload_n 1, 1) := by decide +kernel
theorem dX8_alike_17 : decode bX8_alike.2.1 17 = .ok (.iload_n 2, 1) := by decide +kernel
theorem dX8_alike_18 : decode bX8_alike.2.1 18 = .ok (.if_icmp .eq 47, 3) := by decide +kernel
theorem dX8_alike_21 : decode bX8_alike.2.1 21 = .ok (.aload_n 0, 1) := by decide +kernel
theorem dX8_alike_22 : decode bX8_alike.2.1 22 = .ok (.getfield 9, 3) := by decide +kernel
theorem dX8_alike_25 : decode bX8_alike.2.1 25 = .ok (.iload_n 1, 1) := by decide +kernel
theorem dX8_alike_26 : decode bX8_alike.2.1 26 = .ok (.iaload, 1) := by decide +kernel
theorem dX8_alike_27 : decode bX8_alike.2.1 27 = .ok (.aload_n 0, 1) := by decide +kernel
theorem dX8_alike_28 : decode bX8_alike.2.1 28 = .ok (.getfield 9, 3) := by decide +kernel
theorem dX8_alike_31 : decode bX8_alike.2.1 31 = .ok (.iload_n 2, 1) := by decide +kernel
theorem dX8_alike_32 : decode bX8_alike.2.1 32 = .ok (.iaload, 1) := by decide +kernel
theorem dX8_alike_33 : decode bX8_alike.2.1 33 = .ok (.if_icmp .ne 32, 3) := by decide +kernel
theorem dX8_alike_36 : decode bX8_alike.2.1 36 = .ok (.aload_n 0, 1) := by decide +kernel
theorem dX8_alike_37 : decode bX8_alike.2.1 37 = .ok (.getfield 24, 3) := by decide +kernel
theorem dX8_alike_40 : decode bX8_alike.2.1 40 = .ok (.iload_n 1, 1) := by decide +kernel
theorem dX8_alike_41 : decode bX8_alike.2.1 41 = .ok (.iaload, 1) := by decide +kernel
theorem dX8_alike_42 : decode bX8_alike.2.1 42 = .ok (.aload_n 0, 1) := by decide +kernel
theorem dX8_alike_43 : decode bX8_alike.2.1 43 = .ok (.getfield 24, 3) := by decide +kernel
theorem dX8_alike_46 : decode bX8_alike.2.1 46 = .ok (.iload_n 2, 1) := by decide +kernel
theorem dX8_alike_47 : decode bX8_alike.2.1 47 = .ok (.iaload, 1) := by decide +kernel
theorem dX8_alike_48 : decode bX8_alike.2.1 48 = .ok (.if_icmp .ne 17, 3) := by decide +kernel
theorem dX8_alike_51 : decode bX8_alike.2.1 51 = .ok (.aload_n 0, 1) := by decide +kernel
theorem dX8_alike_52 : decode bX8_alike.2.1 52 = .ok (.getfield 24, 3) := by decide +kernel
theorem dX8_alike_55 : decode bX8_alike.2.1 55 = .ok (.iload_n 1, 1) := by decide +kernel
theorem dX8_alike_56 : decode bX8_alike.2.1 56 = .ok (.iaload, 1) := by decide +kernel
theorem dX8_alike_57 : decode bX8_alike.2.1 57 = .ok (.iconst (-1), 1) := by decide +kernel
theorem dX8_alike_58 : decode bX8_alike.2.1 58 = .ok (.if_icmp .eq 7, 3) := by decide +kernel
theorem dX8_alike_61 : decode bX8_alike.2.1 61 = .ok (.iconst 1, 1) := by decide +kernel
theorem dX8_alike_62 : decode bX8_alike.2.1 62 = .ok (.goto 4, 3) := by decide +kernel
theorem dX8_alike_65 : decode bX8_alike.2.1 65 = .ok (.iconst 0, 1) := by decide +kernel
theorem dX8_alike_66 : decode bX8_alike.2.1 66 = .ok (.ireturn, 1) := by decide +kernel
theorem dX8_lastLikeAhead_0 : decode bX8_lastLikeAhead.2.1 0 = .ok (.iload_n 1, 1) := by decide +kernel
theorem dX8_lastLikeAhead_1 : decode bX8_lastLikeAhead.2.1 1 = .ok (.iconst 1, 1) := by decide +kernel
theorem dX8_lastLikeAhead_2 : decode bX8_lastLikeAhead.2.1 2 = .ok (.isub, 1) := by decide +kernel
theorem dX8_lastLikeAhead_3 : decode bX8_lastLikeAhead.2.1 3 = .ok (.istore_n 2, 1) := by decide +kernel
theorem dX8_lastLikeAhead_4 : decode bX8_lastLikeAhead.2.1 4 = .ok (.iload_n 2, 1) := by decide +kernel
theorem dX8_lastLikeAhead_5 : decode bX8_lastLikeAhead.2.1 5 = .ok (.ifCond .lt 20, 3) := by decide +kernel
theorem dX8_lastLikeAhead_8 : decode bX8_lastLikeAhead.2.1 8 = .ok (.aload_n 0, 1) := by decide +kernel
theorem dX8_lastLikeAhead_9 : decode bX8_lastLikeAhead.2.1 9 = .ok (.iload_n 2, 1) := by decide +kernel
theorem dX8_lastLikeAhead_10 : decode bX8_lastLikeAhead.2.1 10 = .ok (.iload_n 1, 1) := by decide +kernel
theorem dX8_lastLikeAhead_11 : decode bX8_lastLikeAhead.2.1 11 = .ok (.invokevirtual 77, 3) := by decide +kernel
theorem dX8_lastLikeAhead_14 : decode bX8_lastLikeAhead.2.1 14 = .ok (.ifCond .eq 5, 3) := by decide +kernel
theorem dX8_lastLikeAhead_17 : decode bX8_lastLikeAhead.2.1 17 = .ok (.iload_n 2, 1) := by decide +kernel
theorem dX8_lastLikeAhead_18 : decode bX8_lastLikeAhead.2.1 18 = .ok (.ireturn, 1) := by decide +kernel
theorem dX8_lastLikeAhead_19 : decode bX8_lastLikeAhead.2.1 19 = .ok (.iinc 2 (-1), 3) := by decide +kernel
theorem dX8_lastLikeAhead_22 : decode bX8_lastLikeAhead.2.1 22 = .ok (.goto (-18), 3) := by decide +kernel
theorem dX8_lastLikeAhead_25 : decode bX8_lastLikeAhead.2.1 25 = .ok (.iconst (-1), 1) := by decide +kernel
theorem dX8_lastLikeAhead_26 : decode bX8_lastLikeAhead.2.1 26 = .ok (.ireturn, 1) := by decide +kernel
theorem dX8_firstLikeBehind_0 : decode bX8_firstLikeBehind.2.1 0 = .ok (.iload_n 1, 1) := by decide +kernel
theorem dX8_firstLikeBehind_1 : decode bX8_firstLikeBehind.2.1 1 = .ok (.iconst 1, 1) := by decide +kernel
theorem dX8_firstLikeBehind_2 : decode bX8_firstLikeBehind.2.1 2 = .ok (.iadd, 1) := by decide +kernel
theorem dX8_firstLikeBehind_3 : decode bX8_firstLikeBehind.2.1 3 = .ok (.istore_n 2, 1) := by decide +kernel
theorem dX8_firstLikeBehind_4 : decode bX8_firstLikeBehind.2.1 4 = .ok (.iload_n 2, 1) := by decide +kernel
theorem dX8_firstLikeBehind_5 : decode bX8_firstLikeBehind.2.1 5 = .ok (.aload_n 0, 1) := by decide +kernel
theorem dX8_firstLikeBehind_6 : decode bX8_firstLikeBehind.2.1 6 = .ok (.getfield 60, 3) := by decide +kernel
theorem dX8_firstLikeBehind_9 : decode bX8_firstLikeBehind.2.1 9 = .ok (.if_icmp .ge 20, 3) := by decide +kernel
theorem dX8_firstLikeBehind_12 : decode bX8_firstLikeBehind.2.1 12 = .ok (.aload_n 0, 1) := by decide +kernel
theorem dX8_firstLikeBehind_13 : decode bX8_firstLikeBehind.2.1 13 = .ok (.iload_n 2, 1) := by decide +kernel
theorem dX8_firstLikeBehind_14 : decode bX8_firstLikeBehind.2.1 14 = .ok (.iload_n 1, 1) := by decide +kernel
theorem dX8_firstLikeBehind_15 : decode bX8_firstLikeBehind.2.1 15 = .ok (.invokevirtual 77, 3) := by decide +kernel
theorem dX8_firstLikeBehind_18 : decode bX8_firstLikeBehind.2.1 18 = .ok (.ifCond .eq 5, 3) := by decide +kernel
theorem dX8_firstLikeBehind_21 : decode bX8_firstLikeBehind.2.1 21 = .ok (.iload_n 2, 1) := by decide +kernel
theorem dX8_firstLikeBehind_22 : decode bX8_firstLikeBehind.2.1 22 = .ok (.ireturn, 1) := by decide +kernel
theorem dX8_firstLikeBehind_23 : decode bX8_firstLikeBehind.2.1 23 = .ok (.iinc 2 1, 3) := by decide +kernel
theorem dX8_firstLikeBehind_26 : decode bX8_firstLikeBehind.2.1 26 = .ok (.goto (-22), 3) := by decide +kernel
theorem dX8_firstLikeBehind_29 : decode bX8_firstLikeBehind.2.1 29 = .ok (.iconst (-1), 1) := by decide +kernel
theorem dX8_firstLikeBehind_30 : decode bX8_firstLikeBehind.2.1 30 = .ok (.ireturn, 1) := by decide +kernel
theorem dX8_letter_0 : decode bX8_letter.2.1 0 = .ok (.aload_n 0, 1) := by decide +kernel
theorem dX8_letter_1 : decode bX8_letter.2.1 1 = .ok (.iload_n 2, 1) := by decide +kernel
theorem dX8_letter_2 : decode bX8_letter.2.1 2 = .ok (.invokevirtual 85, 3) := by decide +kernel
theorem dX8_letter_5 : decode bX8_letter.2.1 5 = .ok (.ifCond .ne 5, 3) := by decide +kernel
theorem dX8_letter_8 : decode bX8_letter.2.1 8 = .ok (.iconst 0, 1) := by decide +kernel
theorem dX8_letter_9 : decode bX8_letter.2.1 9 = .ok (.ireturn, 1) := by decide +kernel
theorem dX8_letter_10 : decode bX8_letter.2.1 10 = .ok (.iload_n 1, 1) := by decide +kernel
theorem dX8_letter_11 : decode bX8_letter.2.1 11 = .ok (.lookupswitch 79 #[(97, 49), (99, 72), (103, 65), (108, 58), (115, 56)], 49) := by decide +kernel
theorem dX8_letter_60 : decode bX8_letter.2.1 60 = .ok (.aload_n 0, 1) := by decide +kernel
theorem dX8_letter_61 : decode bX8_letter.2.1 61 = .ok (.getfield 9, 3) := by decide +kernel
theorem dX8_letter_64 : decode bX8_letter.2.1 64 = .ok (.iload_n 2, 1) := by decide +kernel
theorem dX8_letter_65 : decode bX8_letter.2.1 65 = .ok (.iaload, 1) := by decide +kernel
theorem dX8_letter_66 : decode bX8_letter.2.1 66 = .ok (.ireturn, 1) := by decide +kernel
theorem dX8_letter_67 : decode bX8_letter.2.1 67 = .ok (.iload_n 2, 1) := by decide +kernel
theorem dX8_letter_68 : decode bX8_letter.2.1 68 = .ok (.ireturn, 1) := by decide +kernel
theorem dX8_letter_69 : decode bX8_letter.2.1 69 = .ok (.aload_n 0, 1) := by decide +kernel
theorem dX8_letter_70 : decode bX8_letter.2.1 70 = .ok (.getfield 18, 3) := by decide +kernel
theorem dX8_letter_73 : decode bX8_letter.2.1 73 = .ok (.iload_n 2, 1) := by decide +kernel
theorem dX8_letter_74 : decode bX8_letter.2.1 74 = .ok (.iaload, 1) := by decide +kernel
theorem dX8_letter_75 : decode bX8_letter.2.1 75 = .ok (.ireturn, 1) := by decide +kernel
theorem dX8_letter_76 : decode bX8_letter.2.1 76 = .ok (.aload_n 0, 1) := by decide +kernel
theorem dX8_letter_77 : decode bX8_letter.2.1 77 = .ok (.getfield 27, 3) := by decide +kernel
theorem dX8_letter_80 : decode bX8_letter.2.1 80 = .ok (.iload_n 2, 1) := by decide +kernel
theorem dX8_letter_81 : decode bX8_letter.2.1 81 = .ok (.iaload, 1) := by decide +kernel
theorem dX8_letter_82 : decode bX8_letter.2.1 82 = .ok (.ireturn, 1) := by decide +kernel
theorem dX8_letter_83 : decode bX8_letter.2.1 83 = .ok (.aload_n 0, 1) := by decide +kernel
theorem dX8_letter_84 : decode bX8_letter.2.1 84 = .ok (.getfield 30, 3) := by decide +kernel
theorem dX8_letter_87 : decode bX8_letter.2.1 87 = .ok (.iload_n 2, 1) := by decide +kernel
theorem dX8_letter_88 : decode bX8_letter.2.1 88 = .ok (.iaload, 1) := by decide +kernel
theorem dX8_letter_89 : decode bX8_letter.2.1 89 = .ok (.ireturn, 1) := by decide +kernel
theorem dX8_letter_90 : decode bX8_letter.2.1 90 = .ok (.iload_n 3, 1) := by decide +kernel
theorem dX8_letter_91 : decode bX8_letter.2.1 91 = .ok (.ifCond .eq 7, 3) := by decide +kernel
theorem dX8_letter_94 : decode bX8_letter.2.1 94 = .ok (.iconst 1, 1) := by decide +kernel
theorem dX8_letter_95 : decode bX8_letter.2.1 95 = .ok (.goto 4, 3) := by decide +kernel
theorem dX8_letter_98 : decode bX8_letter.2.1 98 = .ok (.iconst 0, 1) := by decide +kernel
theorem dX8_letter_99 : decode bX8_letter.2.1 99 = .ok (.ireturn, 1) := by decide +kernel
theorem dX8_weigh_0 : decode bX8_weigh.2.1 0 = .ok (.iconst 0, 1) := by decide +kernel
theorem dX8_weigh_1 : decode bX8_weigh.2.1 1 = .ok (.istore_n 2, 1) := by decide +kernel
theorem dX8_weigh_2 : decode bX8_weigh.2.1 2 = .ok (.iload_n 2, 1) := by decide +kernel
theorem dX8_weigh_3 : decode bX8_weigh.2.1 3 = .ok (.aload_n 0, 1) := by decide +kernel
theorem dX8_weigh_4 : decode bX8_weigh.2.1 4 = .ok (.getfield 60, 3) := by decide +kernel
theorem dX8_weigh_7 : decode bX8_weigh.2.1 7 = .ok (.if_icmp .ge 57, 3) := by decide +kernel
theorem dX8_weigh_10 : decode bX8_weigh.2.1 10 = .ok (.aload_n 0, 1) := by decide +kernel
theorem dX8_weigh_11 : decode bX8_weigh.2.1 11 = .ok (.getfield 33, 3) := by decide +kernel
theorem dX8_weigh_14 : decode bX8_weigh.2.1 14 = .ok (.iload_n 2, 1) := by decide +kernel
theorem dX8_weigh_15 : decode bX8_weigh.2.1 15 = .ok (.aload_n 1, 1) := by decide +kernel
theorem dX8_weigh_16 : decode bX8_weigh.2.1 16 = .ok (.ifnonnull 7, 3) := by decide +kernel
theorem dX8_weigh_19 : decode bX8_weigh.2.1 19 = .ok (.iconst 0, 1) := by decide +kernel
theorem dX8_weigh_20 : decode bX8_weigh.2.1 20 = .ok (.goto 13, 3) := by decide +kernel
theorem dX8_weigh_23 : decode bX8_weigh.2.1 23 = .ok (.aload_n 1, 1) := by decide +kernel
theorem dX8_weigh_24 : decode bX8_weigh.2.1 24 = .ok (.aload_n 0, 1) := by decide +kernel
theorem dX8_weigh_25 : decode bX8_weigh.2.1 25 = .ok (.iload_n 2, 1) := by decide +kernel
theorem dX8_weigh_26 : decode bX8_weigh.2.1 26 = .ok (.iconst 0, 1) := by decide +kernel
theorem dX8_weigh_27 : decode bX8_weigh.2.1 27 = .ok (.invokevirtual 89, 3) := by decide +kernel
theorem dX8_weigh_30 : decode bX8_weigh.2.1 30 = .ok (.invokestatic 95, 3) := by decide +kernel
theorem dX8_weigh_33 : decode bX8_weigh.2.1 33 = .ok (.iastore, 1) := by decide +kernel
theorem dX8_weigh_34 : decode bX8_weigh.2.1 34 = .ok (.aload_n 0, 1) := by decide +kernel
theorem dX8_weigh_35 : decode bX8_weigh.2.1 35 = .ok (.getfield 36, 3) := by decide +kernel
theorem dX8_weigh_38 : decode bX8_weigh.2.1 38 = .ok (.iload_n 2, 1) := by decide +kernel
theorem dX8_weigh_39 : decode bX8_weigh.2.1 39 = .ok (.aload_n 1, 1) := by decide +kernel
theorem dX8_weigh_40 : decode bX8_weigh.2.1 40 = .ok (.ifnonnull 7, 3) := by decide +kernel
theorem dX8_weigh_43 : decode bX8_weigh.2.1 43 = .ok (.iconst 0, 1) := by decide +kernel
theorem dX8_weigh_44 : decode bX8_weigh.2.1 44 = .ok (.goto 13, 3) := by decide +kernel
theorem dX8_weigh_47 : decode bX8_weigh.2.1 47 = .ok (.aload_n 1, 1) := by decide +kernel
theorem dX8_weigh_48 : decode bX8_weigh.2.1 48 = .ok (.aload_n 0, 1) := by decide +kernel
theorem dX8_weigh_49 : decode bX8_weigh.2.1 49 = .ok (.iload_n 2, 1) := by decide +kernel
theorem dX8_weigh_50 : decode bX8_weigh.2.1 50 = .ok (.iconst 1, 1) := by decide +kernel
theorem dX8_weigh_51 : decode bX8_weigh.2.1 51 = .ok (.invokevirtual 89, 3) := by decide +kernel
theorem dX8_weigh_54 : decode bX8_weigh.2.1 54 = .ok (.invokestatic 95, 3) := by decide +kernel
theorem dX8_weigh_57 : decode bX8_weigh.2.1 57 = .ok (.iastore, 1) := by decide +kernel
theorem dX8_weigh_58 : decode bX8_weigh.2.1 58 = .ok (.iinc 2 1, 3) := by decide +kernel
theorem dX8_weigh_61 : decode bX8_weigh.2.1 61 = .ok (.goto (-59), 3) := by decide +kernel
theorem dX8_weigh_64 : decode bX8_weigh.2.1 64 = .ok (.return_, 1) := by decide +kernel
theorem dX8_percent_0 : decode bX8_percent.2.1 0 = .ok (.iconst 0, 1) := by decide +kernel
theorem dX8_percent_1 : decode bX8_percent.2.1 1 = .ok (.bipush 100, 2) := by decide +kernel
theorem dX8_percent_3 : decode bX8_percent.2.1 3 = .ok (.iload_n 0, 1) := by decide +kernel
theorem dX8_percent_4 : decode bX8_percent.2.1 4 = .ok (.invokestatic 51, 3) := by decide +kernel
theorem dX8_percent_7 : decode bX8_percent.2.1 7 = .ok (.invokestatic 98, 3) := by decide +kernel
theorem dX8_percent_10 : decode bX8_percent.2.1 10 = .ok (.ireturn, 1) := by decide +kernel
theorem dX8_forgets_0 : decode bX8_forgets.2.1 0 = .ok (.aload_n 0, 1) := by decide +kernel
theorem dX8_forgets_1 : decode bX8_forgets.2.1 1 = .ok (.iload_n 1, 1) := by decide +kernel
theorem dX8_forgets_2 : decode bX8_forgets.2.1 2 = .ok (.invokevirtual 85, 3) := by decide +kernel
theorem dX8_forgets_5 : decode bX8_forgets.2.1 5 = .ok (.ifCond .ne 5, 3) := by decide +kernel
theorem dX8_forgets_8 : decode bX8_forgets.2.1 8 = .ok (.iconst 0, 1) := by decide +kernel
theorem dX8_forgets_9 : decode bX8_forgets.2.1 9 = .ok (.ireturn, 1) := by decide +kernel
theorem dX8_forgets_10 : decode bX8_forgets.2.1 10 = .ok (.iload_n 2, 1) := by decide +kernel
theorem dX8_forgets_11 : decode bX8_forgets.2.1 11 = .ok (.ifCond .eq 12, 3) := by decide +kernel
theorem dX8_forgets_14 : decode bX8_forgets.2.1 14 = .ok (.aload_n 0, 1) := by decide +kernel
theorem dX8_forgets_15 : decode bX8_forgets.2.1 15 = .ok (.getfield 36, 3) := by decide +kernel
theorem dX8_forgets_18 : decode bX8_forgets.2.1 18 = .ok (.iload_n 1, 1) := by decide +kernel
theorem dX8_forgets_19 : decode bX8_forgets.2.1 19 = .ok (.iaload, 1) := by decide +kernel
theorem dX8_forgets_20 : decode bX8_forgets.2.1 20 = .ok (.goto 9, 3) := by decide +kernel
theorem dX8_forgets_23 : decode bX8_forgets.2.1 23 = .ok (.aload_n 0, 1) := by decide +kernel
theorem dX8_forgets_24 : decode bX8_forgets.2.1 24 = .ok (.getfield 33, 3) := by decide +kernel
theorem dX8_forgets_27 : decode bX8_forgets.2.1 27 = .ok (.iload_n 1, 1) := by decide +kernel
theorem dX8_forgets_28 : decode bX8_forgets.2.1 28 = .ok (.iaload, 1) := by decide +kernel
theorem dX8_forgets_29 : decode bX8_forgets.2.1 29 = .ok (.ireturn, 1) := by decide +kernel
theorem dX8_findSharers_0 : decode bX8_findSharers.2.1 0 = .ok (.aload_n 0, 1) := by decide +kernel
theorem dX8_findSharers_1 : decode bX8_findSharers.2.1 1 = .ok (.invokevirtual 81, 3) := by decide +kernel
theorem dX8_findSharers_4 : decode bX8_findSharers.2.1 4 = .ok (.istore_n 2, 1) := by decide +kernel
theorem dX8_findSharers_5 : decode bX8_findSharers.2.1 5 = .ok (.iconst 0, 1) := by decide +kernel
theorem dX8_findSharers_6 : decode bX8_findSharers.2.1 6 = .ok (.istore_n 3, 1) := by decide +kernel
theorem dX8_findSharers_7 : decode bX8_findSharers.2.1 7 = .ok (.iload_n 3, 1) := by decide +kernel
theorem dX8_findSharers_8 : decode bX8_findSharers.2.1 8 = .ok (.bipush 8, 2) := by decide +kernel
theorem dX8_findSharers_10 : decode bX8_findSharers.2.1 10 = .ok (.if_icmp .ge 34, 3) := by decide +kernel
theorem dX8_findSharers_13 : decode bX8_findSharers.2.1 13 = .ok (.aload_n 0, 1) := by decide +kernel
theorem dX8_findSharers_14 : decode bX8_findSharers.2.1 14 = .ok (.getfield 39, 3) := by decide +kernel
theorem dX8_findSharers_17 : decode bX8_findSharers.2.1 17 = .ok (.iload_n 3, 1) := by decide +kernel
theorem dX8_findSharers_18 : decode bX8_findSharers.2.1 18 = .ok (.iload_n 2, 1) := by decide +kernel
theorem dX8_findSharers_19 : decode bX8_findSharers.2.1 19 = .ok (.iload_n 3, 1) := by decide +kernel
theorem dX8_findSharers_20 : decode bX8_findSharers.2.1 20 = .ok (.ishr, 1) := by decide +kernel
theorem dX8_findSharers_21 : decode bX8_findSharers.2.1 21 = .ok (.iconst 1, 1) := by decide +kernel
theorem dX8_findSharers_22 : decode bX8_findSharers.2.1 22 = .ok (.iand, 1) := by decide +kernel
theorem dX8_findSharers_23 : decode bX8_findSharers.2.1 23 = .ok (.ifCond .ne 7, 3) := by decide +kernel
theorem dX8_findSharers_26 : decode bX8_findSharers.2.1 26 = .ok (.iconst 0, 1) := by decide +kernel
theorem dX8_findSharers_27 : decode bX8_findSharers.2.1 27 = .ok (.goto 10, 3) := by decide +kernel
theorem dX8_findSharers_30 : decode bX8_findSharers.2.1 30 = .ok (.iload_n 2, 1) := by decide +kernel
theorem dX8_findSharers_31 : decode bX8_findSharers.2.1 31 = .ok (.iconst 1, 1) := by decide +kernel
theorem dX8_findSharers_32 : decode bX8_findSharers.2.1 32 = .ok (.iload_n 3, 1) := by decide +kernel
theorem dX8_findSharers_33 : decode bX8_findSharers.2.1 33 = .ok (.ishl, 1) := by decide +kernel
theorem dX8_findSharers_34 : decode bX8_findSharers.2.1 34 = .ok (.iconst (-1), 1) := by decide +kernel
theorem dX8_findSharers_35 : decode bX8_findSharers.2.1 35 = .ok (.ixor, 1) := by decide +kernel
theorem dX8_findSharers_36 : decode bX8_findSharers.2.1 36 = .ok (.iand, 1) := by decide +kernel
theorem dX8_findSharers_37 : decode bX8_findSharers.2.1 37 = .ok (.iastore, 1) := by decide +kernel
theorem dX8_findSharers_38 : decode bX8_findSharers.2.1 38 = .ok (.iinc 3 1, 3) := by decide +kernel
theorem dX8_findSharers_41 : decode bX8_findSharers.2.1 41 = .ok (.goto (-34), 3) := by decide +kernel
theorem dX8_findSharers_44 : decode bX8_findSharers.2.1 44 = .ok (.iconst 0, 1) := by decide +kernel
theorem dX8_findSharers_45 : decode bX8_findSharers.2.1 45 = .ok (.istore_n 3, 1) := by decide +kernel
theorem dX8_findSharers_46 : decode bX8_findSharers.2.1 46 = .ok (.iload_n 3, 1) := by decide +kernel
theorem dX8_findSharers_47 : decode bX8_findSharers.2.1 47 = .ok (.aload_n 0, 1) := by decide +kernel
theorem dX8_findSharers_48 : decode bX8_findSharers.2.1 48 = .ok (.getfield 60, 3) := by decide +kernel
theorem dX8_findSharers_51 : decode bX8_findSharers.2.1 51 = .ok (.if_icmp .ge 98, 3) := by decide +kernel
theorem dX8_findSharers_54 : decode bX8_findSharers.2.1 54 = .ok (.iconst 0, 1) := by decide +kernel
theorem dX8_findSharers_55 : decode bX8_findSharers.2.1 55 = .ok (.istore 4, 2) := by decide +kernel
theorem dX8_findSharers_57 : decode bX8_findSharers.2.1 57 = .ok (.iload 4, 2) := by decide +kernel
theorem dX8_findSharers_59 : decode bX8_findSharers.2.1 59 = .ok (.iload_n 3, 1) := by decide +kernel
theorem dX8_findSharers_60 : decode bX8_findSharers.2.1 60 = .ok (.if_icmp .ge 83, 3) := by decide +kernel
theorem dX8_findSharers_63 : decode bX8_findSharers.2.1 63 = .ok (.iload_n 3, 1) := by decide +kernel
theorem dX8_findSharers_64 : decode bX8_findSharers.2.1 64 = .ok (.iload 4, 2) := by decide +kernel
theorem dX8_findSharers_66 : decode bX8_findSharers.2.1 66 = .ok (.isub, 1) := by decide +kernel
theorem dX8_findSharers_67 : decode bX8_findSharers.2.1 67 = .ok (.iload_n 1, 1) := by decide +kernel
theorem dX8_findSharers_68 : decode bX8_findSharers.2.1 68 = .ok (.if_icmp .ge 69, 3) := by decide +kernel
theorem dX8_findSharers_71 : decode bX8_findSharers.2.1 71 = .ok (.aload_n 0, 1) := by decide +kernel
theorem dX8_findSharers_72 : decode bX8_findSharers.2.1 72 = .ok (.getfield 9, 3) := by decide +kernel
theorem dX8_findSharers_75 : decode bX8_findSharers.2.1 75 = .ok (.iload_n 3, 1) := by decide +kernel
theorem dX8_findSharers_76 : decode bX8_findSharers.2.1 76 = .ok (.iaload, 1) := by decide +kernel
theorem dX8_findSharers_77 : decode bX8_findSharers.2.1 77 = .ok (.aload_n 0, 1) := by decide +kernel
theorem dX8_findSharers_78 : decode bX8_findSharers.2.1 78 = .ok (.getfield 9, 3) := by decide +kernel
theorem dX8_findSharers_81 : decode bX8_findSharers.2.1 81 = .ok (.iload 4, 2) := by decide +kernel
theorem dX8_findSharers_83 : decode bX8_findSharers.2.1 83 = .ok (.iaload, 1) := by decide +kernel
theorem dX8_findSharers_84 : decode bX8_findSharers.2.1 84 = .ok (.if_icmp .eq 53, 3) := by decide +kernel
theorem dX8_findSharers_87 : decode bX8_findSharers.2.1 87 = .ok (.aload_n 0, 1) := by decide +kernel
theorem dX8_findSharers_88 : decode bX8_findSharers.2.1 88 = .ok (.getfield 39, 3) := by decide +kernel
theorem dX8_findSharers_91 : decode bX8_findSharers.2.1 91 = .ok (.aload_n 0, 1) := by decide +kernel
theorem dX8_findSharers_92 : decode bX8_findSharers.2.1 92 = .ok (.getfield 9, 3) := by decide +kernel
theorem dX8_findSharers_95 : decode bX8_findSharers.2.1 95 = .ok (.iload_n 3, 1) := by decide +kernel
theorem dX8_findSharers_96 : decode bX8_findSharers.2.1 96 = .ok (.iaload, 1) := by decide +kernel
theorem dX8_findSharers_97 : decode bX8_findSharers.2.1 97 = .ok (.dup2, 1) := by decide +kernel
theorem dX8_findSharers_98 : decode bX8_findSharers.2.1 98 = .ok (.iaload, 1) := by decide +kernel
theorem dX8_findSharers_99 : decode bX8_findSharers.2.1 99 = .ok (.iconst 1, 1) := by decide +kernel
theorem dX8_findSharers_100 : decode bX8_findSharers.2.1 100 = .ok (.aload_n 0, 1) := by decide +kernel
theorem dX8_findSharers_101 : decode bX8_findSharers.2.1 101 = .ok (.getfield 9, 3) := by decide +kernel
theorem dX8_findSharers_104 : decode bX8_findSharers.2.1 104 = .ok (.iload 4, 2) := by decide +kernel
theorem dX8_findSharers_106 : decode bX8_findSharers.2.1 106 = .ok (.iaload, 1) := by decide +kernel
theorem dX8_findSharers_107 : decode bX8_findSharers.2.1 107 = .ok (.ishl, 1) := by decide +kernel
theorem dX8_findSharers_108 : decode bX8_findSharers.2.1 108 = .ok (.iconst (-1), 1) := by decide +kernel
theorem dX8_findSharers_109 : decode bX8_findSharers.2.1 109 = .ok (.ixor, 1) := by decide +kernel
theorem dX8_findSharers_110 : decode bX8_findSharers.2.1 110 = .ok (.iand, 1) := by decide +kernel
theorem dX8_findSharers_111 : decode bX8_findSharers.2.1 111 = .ok (.iastore, 1) := by decide +kernel
theorem dX8_findSharers_112 : decode bX8_findSharers.2.1 112 = .ok (.aload_n 0, 1) := by decide +kernel
theorem dX8_findSharers_113 : decode bX8_findSharers.2.1 113 = .ok (.getfield 39, 3) := by decide +kernel
theorem dX8_findSharers_116 : decode bX8_findSharers.2.1 116 = .ok (.aload_n 0, 1) := by decide +kernel
theorem dX8_findSharers_117 : decode bX8_findSharers.2.1 117 = .ok (.getfield 9, 3) := by decide +kernel
theorem dX8_findSharers_120 : decode bX8_findSharers.2.1 120 = .ok (.iload 4, 2) := by decide +kernel
theorem dX8_findSharers_122 : decode bX8_findSharers.2.1 122 = .ok (.iaload, 1) := by decide +kernel
theorem dX8_findSharers_123 : decode bX8_findSharers.2.1 123 = .ok (.dup2, 1) := by decide +kernel
theorem dX8_findSharers_124 : decode bX8_findSharers.2.1 124 = .ok (.iaload, 1) := by decide +kernel
theorem dX8_findSharers_125 : decode bX8_findSharers.2.1 125 = .ok (.iconst 1, 1) := by decide +kernel
theorem dX8_findSharers_126 : decode bX8_findSharers.2.1 126 = .ok (.aload_n 0, 1) := by decide +kernel
theorem dX8_findSharers_127 : decode bX8_findSharers.2.1 127 = .ok (.getfield 9, 3) := by decide +kernel
theorem dX8_findSharers_130 : decode bX8_findSharers.2.1 130 = .ok (.iload_n 3, 1) := by decide +kernel
theorem dX8_findSharers_131 : decode bX8_findSharers.2.1 131 = .ok (.iaload, 1) := by decide +kernel
theorem dX8_findSharers_132 : decode bX8_findSharers.2.1 132 = .ok (.ishl, 1) := by decide +kernel
theorem dX8_findSharers_133 : decode bX8_findSharers.2.1 133 = .ok (.iconst (-1), 1) := by decide +kernel
theorem dX8_findSharers_134 : decode bX8_findSharers.2.1 134 = .ok (.ixor, 1) := by decide +kernel
theorem dX8_findSharers_135 : decode bX8_findSharers.2.1 135 = .ok (.iand, 1) := by decide +kernel
theorem dX8_findSharers_136 : decode bX8_findSharers.2.1 136 = .ok (.iastore, 1) := by decide +kernel
theorem dX8_findSharers_137 : decode bX8_findSharers.2.1 137 = .ok (.iinc 4 1, 3) := by decide +kernel
theorem dX8_findSharers_140 : decode bX8_findSharers.2.1 140 = .ok (.goto (-83), 3) := by decide +kernel
theorem dX8_findSharers_143 : decode bX8_findSharers.2.1 143 = .ok (.iinc 3 1, 3) := by decide +kernel
theorem dX8_findSharers_146 : decode bX8_findSharers.2.1 146 = .ok (.goto (-100), 3) := by decide +kernel
theorem dX8_findSharers_149 : decode bX8_findSharers.2.1 149 = .ok (.return_, 1) := by decide +kernel
theorem dX8_fewestPlayers_0 : decode bX8_fewestPlayers.2.1 0 = .ok (.aload_n 0, 1) := by decide +kernel
theorem dX8_fewestPlayers_1 : decode bX8_fewestPlayers.2.1 1 = .ok (.invokevirtual 81, 3) := by decide +kernel
theorem dX8_fewestPlayers_4 : decode bX8_fewestPlayers.2.1 4 = .ok (.istore_n 1, 1) := by decide +kernel
theorem dX8_fewestPlayers_5 : decode bX8_fewestPlayers.2.1 5 = .ok (.aload_n 0, 1) := by decide +kernel
theorem dX8_fewestPlayers_6 : decode bX8_fewestPlayers.2.1 6 = .ok (.getfield 42, 3) := by decide +kernel
theorem dX8_fewestPlayers_9 : decode bX8_fewestPlayers.2.1 9 = .ok (.iconst 0, 1) := by decide +kernel
theorem dX8_fewestPlayers_10 : decode bX8_fewestPlayers.2.1 10 = .ok (.iconst 0, 1) := by decide +kernel
theorem dX8_fewestPlayers_11 : decode bX8_fewestPlayers.2.1 11 = .ok (.iastore, 1) := by decide +kernel
theorem dX8_fewestPlayers_12 : decode bX8_fewestPlayers.2.1 12 = .ok (.iconst 1, 1) := by decide +kernel
theorem dX8_fewestPlayers_13 : decode bX8_fewestPlayers.2.1 13 = .ok (.istore_n 2, 1) := by decide +kernel
theorem dX8_fewestPlayers_14 : decode bX8_fewestPlayers.2.1 14 = .ok (.iload_n 2, 1) := by decide +kernel
theorem dX8_fewestPlayers_15 : decode bX8_fewestPlayers.2.1 15 = .ok (.aload_n 0, 1) := by decide +kernel
theorem dX8_fewestPlayers_16 : decode bX8_fewestPlayers.2.1 16 = .ok (.getfield 42, 3) := by decide +kernel
theorem dX8_fewestPlayers_19 : decode bX8_fewestPlayers.2.1 19 = .ok (.arraylength, 1) := by decide +kernel
theorem dX8_fewestPlayers_20 : decode bX8_fewestPlayers.2.1 20 = .ok (.if_icmp .ge 99, 3) := by decide +kernel
theorem dX8_fewestPlayers_23 : decode bX8_fewestPlayers.2.1 23 = .ok (.iload_n 2, 1) := by decide +kernel
theorem dX8_fewestPlayers_24 : decode bX8_fewestPlayers.2.1 24 = .ok (.iload_n 1, 1) := by decide +kernel
theorem dX8_fewestPlayers_25 : decode bX8_fewestPlayers.2.1 25 = .ok (.if_icmp .gt 94, 3) := by decide +kernel
theorem dX8_fewestPlayers_28 : decode bX8_fewestPlayers.2.1 28 = .ok (.iload_n 2, 1) := by decide +kernel
theorem dX8_fewestPlayers_29 : decode bX8_fewestPlayers.2.1 29 = .ok (.iload_n 1, 1) := by decide +kernel
theorem dX8_fewestPlayers_30 : decode bX8_fewestPlayers.2.1 30 = .ok (.iconst (-1), 1) := by decide +kernel
theorem dX8_fewestPlayers_31 : decode bX8_fewestPlayers.2.1 31 = .ok (.ixor, 1) := by decide +kernel
theorem dX8_fewestPlayers_32 : decode bX8_fewestPlayers.2.1 32 = .ok (.iand, 1) := by decide +kernel
theorem dX8_fewestPlayers_33 : decode bX8_fewestPlayers.2.1 33 = .ok (.ifCond .eq 6, 3) := by decide +kernel
theorem dX8_fewestPlayers_36 : decode bX8_fewestPlayers.2.1 36 = .ok (.goto 77, 3) := by decide +kernel
theorem dX8_fewestPlayers_39 : decode bX8_fewestPlayers.2.1 39 = .ok (.aload_n 0, 1) := by decide +kernel
theorem dX8_fewestPlayers_40 : decode bX8_fewestPlayers.2.1 40 = .ok (.getfield 42, 3) := by decide +kernel
theorem dX8_fewestPlayers_43 : decode bX8_fewestPlayers.2.1 43 = .ok (.iload_n 2, 1) := by decide +kernel
theorem dX8_fewestPlayers_44 : decode bX8_fewestPlayers.2.1 44 = .ok (.bipush 8, 2) := by decide +kernel
theorem dX8_fewestPlayers_46 : decode bX8_fewestPlayers.2.1 46 = .ok (.iastore, 1) := by decide +kernel
theorem dX8_fewestPlayers_47 : decode bX8_fewestPlayers.2.1 47 = .ok (.iload_n 2, 1) := by decide +kernel
theorem dX8_fewestPlayers_48 : decode bX8_fewestPlayers.2.1 48 = .ok (.iload_n 2, 1) := by decide +kernel
theorem dX8_fewestPlayers_49 : decode bX8_fewestPlayers.2.1 49 = .ok (.ineg, 1) := by decide +kernel
theorem dX8_fewestPlayers_50 : decode bX8_fewestPlayers.2.1 50 = .ok (.iand, 1) := by decide +kernel
theorem dX8_fewestPlayers_51 : decode bX8_fewestPlayers.2.1 51 = .ok (.istore_n 3, 1) := by decide +kernel
theorem dX8_fewestPlayers_52 : decode bX8_fewestPlayers.2.1 52 = .ok (.iload_n 2, 1) := by decide +kernel
theorem dX8_fewestPlayers_53 : decode bX8_fewestPlayers.2.1 53 = .ok (.istore 4, 2) := by decide +kernel
theorem dX8_fewestPlayers_55 : decode bX8_fewestPlayers.2.1 55 = .ok (.iload 4, 2) := by decide +kernel
theorem dX8_fewestPlayers_57 : decode bX8_fewestPlayers.2.1 57 = .ok (.ifCond .le 56, 3) := by decide +kernel
theorem dX8_fewestPlayers_60 : decode bX8_fewestPlayers.2.1 60 = .ok (.iload 4, 2) := by decide +kernel
theorem dX8_fewestPlayers_62 : decode bX8_fewestPlayers.2.1 62 = .ok (.iload_n 3, 1) := by decide +kernel
theorem dX8_fewestPlayers_63 : decode bX8_fewestPlayers.2.1 63 = .ok (.iand, 1) := by decide +kernel
theorem dX8_fewestPlayers_64 : decode bX8_fewestPlayers.2.1 64 = .ok (.ifCond .eq 38, 3) := by decide +kernel
theorem dX8_fewestPlayers_67 : decode bX8_fewestPlayers.2.1 67 = .ok (.aload_n 0, 1) := by decide +kernel
theorem dX8_fewestPlayers_68 : decode bX8_fewestPlayers.2.1 68 = .ok (.iload 4, 2) := by decide +kernel
theorem dX8_fewestPlayers_70 : decode bX8_fewestPlayers.2.1 70 = .ok (.invokevirtual 104, 3) := by decide +kernel
theorem dX8_fewestPlayers_73 : decode bX8_fewestPlayers.2.1 73 = .ok (.ifCond .eq 29, 3) := by decide +kernel
theorem dX8_fewestPlayers_76 : decode bX8_fewestPlayers.2.1 76 = .ok (.aload_n 0, 1) := by decide +kernel
theorem dX8_fewestPlayers_77 : decode bX8_fewestPlayers.2.1 77 = .ok (.getfield 42, 3) := by decide +kernel
theorem dX8_fewestPlayers_80 : decode bX8_fewestPlayers.2.1 80 = .ok (.iload_n 2, 1) := by decide +kernel
theorem dX8_fewestPlayers_81 : decode bX8_fewestPlayers.2.1 81 = .ok (.aload_n 0, 1) := by decide +kernel
theorem dX8_fewestPlayers_82 : decode bX8_fewestPlayers.2.1 82 = .ok (.getfield 42, 3) := by decide +kernel
theorem dX8_fewestPlayers_85 : decode bX8_fewestPlayers.2.1 85 = .ok (.iload_n 2, 1) := by decide +kernel
theorem dX8_fewestPlayers_86 : decode bX8_fewestPlayers.2.1 86 = .ok (.iaload, 1) := by decide +kernel
theorem dX8_fewestPlayers_87 : decode bX8_fewestPlayers.2.1 87 = .ok (.aload_n 0, 1) := by decide +kernel
theorem dX8_fewestPlayers_88 : decode bX8_fewestPlayers.2.1 88 = .ok (.getfield 42, 3) := by decide +kernel
theorem dX8_fewestPlayers_91 : decode bX8_fewestPlayers.2.1 91 = .ok (.iload_n 2, 1) := by decide +kernel
theorem dX8_fewestPlayers_92 : decode bX8_fewestPlayers.2.1 92 = .ok (.iload 4, 2) := by decide +kernel
theorem dX8_fewestPlayers_94 : decode bX8_fewestPlayers.2.1 94 = .ok (.ixor, 1) := by decide +kernel
theorem dX8_fewestPlayers_95 : decode bX8_fewestPlayers.2.1 95 = .ok (.iaload, 1) := by decide +kernel
theorem dX8_fewestPlayers_96 : decode bX8_fewestPlayers.2.1 96 = .ok (.iconst 1, 1) := by decide +kernel
theorem dX8_fewestPlayers_97 : decode bX8_fewestPlayers.2.1 97 = .ok (.iadd, 1) := by decide +kernel
theorem dX8_fewestPlayers_98 : decode bX8_fewestPlayers.2.1 98 = .ok (.invokestatic 51, 3) := by decide +kernel
theorem dX8_fewestPlayers_101 : decode bX8_fewestPlayers.2.1 101 = .ok (.iastore, 1) := by decide +kernel
theorem dX8_fewestPlayers_102 : decode bX8_fewestPlayers.2.1 102 = .ok (.iload 4, 2) := by decide +kernel
theorem dX8_fewestPlayers_104 : decode bX8_fewestPlayers.2.1 104 = .ok (.iconst 1, 1) := by decide +kernel
theorem dX8_fewestPlayers_105 : decode bX8_fewestPlayers.2.1 105 = .ok (.isub, 1) := by decide +kernel
theorem dX8_fewestPlayers_106 : decode bX8_fewestPlayers.2.1 106 = .ok (.iload_n 2, 1) := by decide +kernel
theorem dX8_fewestPlayers_107 : decode bX8_fewestPlayers.2.1 107 = .ok (.iand, 1) := by decide +kernel
theorem dX8_fewestPlayers_108 : decode bX8_fewestPlayers.2.1 108 = .ok (.istore 4, 2) := by decide +kernel
theorem dX8_fewestPlayers_110 : decode bX8_fewestPlayers.2.1 110 = .ok (.goto (-55), 3) := by decide +kernel
theorem dX8_fewestPlayers_113 : decode bX8_fewestPlayers.2.1 113 = .ok (.iinc 2 1, 3) := by decide +kernel
theorem dX8_fewestPlayers_116 : decode bX8_fewestPlayers.2.1 116 = .ok (.goto (-102), 3) := by decide +kernel
theorem dX8_fewestPlayers_119 : decode bX8_fewestPlayers.2.1 119 = .ok (.iload_n 1, 1) := by decide +kernel
theorem dX8_fewestPlayers_120 : decode bX8_fewestPlayers.2.1 120 = .ok (.aload_n 0, 1) := by decide +kernel
theorem dX8_fewestPlayers_121 : decode bX8_fewestPlayers.2.1 121 = .ok (.getfield 42, 3) := by decide +kernel
theorem dX8_fewestPlayers_124 : decode bX8_fewestPlayers.2.1 124 = .ok (.arraylength, 1) := by decide +kernel
theorem dX8_fewestPlayers_125 : decode bX8_fewestPlayers.2.1 125 = .ok (.if_icmp .ge 12, 3) := by decide +kernel
theorem dX8_fewestPlayers_128 : decode bX8_fewestPlayers.2.1 128 = .ok (.aload_n 0, 1) := by decide +kernel
theorem dX8_fewestPlayers_129 : decode bX8_fewestPlayers.2.1 129 = .ok (.getfield 42, 3) := by decide +kernel
theorem dX8_fewestPlayers_132 : decode bX8_fewestPlayers.2.1 132 = .ok (.iload_n 1, 1) := by decide +kernel
theorem dX8_fewestPlayers_133 : decode bX8_fewestPlayers.2.1 133 = .ok (.iaload, 1) := by decide +kernel
theorem dX8_fewestPlayers_134 : decode bX8_fewestPlayers.2.1 134 = .ok (.goto 4, 3) := by decide +kernel
theorem dX8_fewestPlayers_137 : decode bX8_fewestPlayers.2.1 137 = .ok (.iconst (-1), 1) := by decide +kernel
theorem dX8_fewestPlayers_138 : decode bX8_fewestPlayers.2.1 138 = .ok (.ireturn, 1) := by decide +kernel
theorem dX8_canShare_0 : decode bX8_canShare.2.1 0 = .ok (.iconst 0, 1) := by decide +kernel
theorem dX8_canShare_1 : decode bX8_canShare.2.1 1 = .ok (.istore_n 2, 1) := by decide +kernel
theorem dX8_canShare_2 : decode bX8_canShare.2.1 2 = .ok (.iload_n 2, 1) := by decide +kernel
theorem dX8_canShare_3 : decode bX8_canShare.2.1 3 = .ok (.bipush 8, 2) := by decide +kernel
theorem dX8_canShare_5 : decode bX8_canShare.2.1 5 = .ok (.if_icmp .ge 36, 3) := by decide +kernel
theorem dX8_canShare_8 : decode bX8_canShare.2.1 8 = .ok (.iload_n 1, 1) := by decide +kernel
theorem dX8_canShare_9 : decode bX8_canShare.2.1 9 = .ok (.iload_n 2, 1) := by decide +kernel
theorem dX8_canShare_10 : decode bX8_canShare.2.1 10 = .ok (.ishr, 1) := by decide +kernel
theorem dX8_canShare_11 : decode bX8_canShare.2.1 11 = .ok (.iconst 1, 1) := by decide +kernel
theorem dX8_canShare_12 : decode bX8_canShare.2.1 12 = .ok (.iand, 1) := by decide +kernel
theorem dX8_canShare_13 : decode bX8_canShare.2.1 13 = .ok (.ifCond .eq 22, 3) := by decide +kernel
theorem dX8_canShare_16 : decode bX8_canShare.2.1 16 = .ok (.iload_n 1, 1) := by decide +kernel
theorem dX8_canShare_17 : decode bX8_canShare.2.1 17 = .ok (.aload_n 0, 1) := by decide +kernel
theorem dX8_canShare_18 : decode bX8_canShare.2.1 18 = .ok (.getfield 39, 3) := by decide +kernel
theorem dX8_canShare_21 : decode bX8_canShare.2.1 21 = .ok (.iload_n 2, 1) := by decide +kernel
theorem dX8_canShare_22 : decode bX8_canShare.2.1 22 = .ok (.iaload, 1) := by decide +kernel
theorem dX8_canShare_23 : decode bX8_canShare.2.1 23 = .ok (.iconst 1, 1) := by decide +kernel
theorem dX8_canShare_24 : decode bX8_canShare.2.1 24 = .ok (.iload_n 2, 1) := by decide +kernel
theorem dX8_canShare_25 : decode bX8_canShare.2.1 25 = .ok (.ishl, 1) := by decide +kernel
theorem dX8_canShare_26 : decode bX8_canShare.2.1 26 = .ok (.ior, 1) := by decide +kernel
theorem dX8_canShare_27 : decode bX8_canShare.2.1 27 = .ok (.iconst (-1), 1) := by decide +kernel
theorem dX8_canShare_28 : decode bX8_canShare.2.1 28 = .ok (.ixor, 1) := by decide +kernel
theorem dX8_canShare_29 : decode bX8_canShare.2.1 29 = .ok (.iand, 1) := by decide +kernel
theorem dX8_canShare_30 : decode bX8_canShare.2.1 30 = .ok (.ifCond .eq 5, 3) := by decide +kernel
theorem dX8_canShare_33 : decode bX8_canShare.2.1 33 = .ok (.iconst 0, 1) := by decide +kernel
theorem dX8_canShare_34 : decode bX8_canShare.2.1 34 = .ok (.ireturn, 1) := by decide +kernel
theorem dX8_canShare_35 : decode bX8_canShare.2.1 35 = .ok (.iinc 2 1, 3) := by decide +kernel
theorem dX8_canShare_38 : decode bX8_canShare.2.1 38 = .ok (.goto (-36), 3) := by decide +kernel
theorem dX8_canShare_41 : decode bX8_canShare.2.1 41 = .ok (.iconst 1, 1) := by decide +kernel
theorem dX8_canShare_42 : decode bX8_canShare.2.1 42 = .ok (.ireturn, 1) := by decide +kernel
theorem dX8_wordsToChange_0 : decode bX8_wordsToChange.2.1 0 = .ok (.iconst 0, 1) := by decide +kernel
theorem dX8_wordsToChange_1 : decode bX8_wordsToChange.2.1 1 = .ok (.istore_n 1, 1) := by decide +kernel
theorem dX8_wordsToChange_2 : decode bX8_wordsToChange.2.1 2 = .ok (.iconst 0, 1) := by decide +kernel
theorem dX8_wordsToChange_3 : decode bX8_wordsToChange.2.1 3 = .ok (.istore_n 2, 1) := by decide +kernel
theorem dX8_wordsToChange_4 : decode bX8_wordsToChange.2.1 4 = .ok (.iload_n 2, 1) := by decide +kernel
theorem dX8_wordsToChange_5 : decode bX8_wordsToChange.2.1 5 = .ok (.aload_n 0, 1) := by decide +kernel
theorem dX8_wordsToChange_6 : decode bX8_wordsToChange.2.1 6 = .ok (.getfield 60, 3) := by decide +kernel
theorem dX8_wordsToChange_9 : decode bX8_wordsToChange.2.1 9 = .ok (.if_icmp .ge 26, 3) := by decide +kernel
theorem dX8_wordsToChange_12 : decode bX8_wordsToChange.2.1 12 = .ok (.iload_n 1, 1) := by decide +kernel
theorem dX8_wordsToChange_13 : decode bX8_wordsToChange.2.1 13 = .ok (.aload_n 0, 1) := by decide +kernel
theorem dX8_wordsToChange_14 : decode bX8_wordsToChange.2.1 14 = .ok (.iload_n 2, 1) := by decide +kernel
theorem dX8_wordsToChange_15 : decode bX8_wordsToChange.2.1 15 = .ok (.invokevirtual 107, 3) := by decide +kernel
theorem dX8_wordsToChange_18 : decode bX8_wordsToChange.2.1 18 = .ok (.iconst (-1), 1) := by decide +kernel
theorem dX8_wordsToChange_19 : decode bX8_wordsToChange.2.1 19 = .ok (.if_icmp .eq 7, 3) := by decide +kernel
theorem dX8_wordsToChange_22 : decode bX8_wordsToChange.2.1 22 = .ok (.iconst 1, 1) := by decide +kernel
theorem dX8_wordsToChange_23 : decode bX8_wordsToChange.2.1 23 = .ok (.goto 4, 3) := by decide +kernel
theorem dX8_wordsToChange_26 : decode bX8_wordsToChange.2.1 26 = .ok (.iconst 0, 1) := by decide +kernel
theorem dX8_wordsToChange_27 : decode bX8_wordsToChange.2.1 27 = .ok (.iadd, 1) := by decide +kernel
theorem dX8_wordsToChange_28 : decode bX8_wordsToChange.2.1 28 = .ok (.istore_n 1, 1) := by decide +kernel
theorem dX8_wordsToChange_29 : decode bX8_wordsToChange.2.1 29 = .ok (.iinc 2 1, 3) := by decide +kernel
theorem dX8_wordsToChange_32 : decode bX8_wordsToChange.2.1 32 = .ok (.goto (-28), 3) := by decide +kernel
theorem dX8_wordsToChange_35 : decode bX8_wordsToChange.2.1 35 = .ok (.iload_n 1, 1) := by decide +kernel
theorem dX8_wordsToChange_36 : decode bX8_wordsToChange.2.1 36 = .ok (.ireturn, 1) := by decide +kernel
theorem dX8_firstWordToChange_0 : decode bX8_firstWordToChange.2.1 0 = .ok (.iconst 0, 1) := by decide +kernel
theorem dX8_firstWordToChange_1 : decode bX8_firstWordToChange.2.1 1 = .ok (.istore_n 1, 1) := by decide +kernel
theorem dX8_firstWordToChange_2 : decode bX8_firstWordToChange.2.1 2 = .ok (.iload_n 1, 1) := by decide +kernel
theorem dX8_firstWordToChange_3 : decode bX8_firstWordToChange.2.1 3 = .ok (.aload_n 0, 1) := by decide +kernel
theorem dX8_firstWordToChange_4 : decode bX8_firstWordToChange.2.1 4 = .ok (.getfield 60, 3) := by decide +kernel
theorem dX8_firstWordToChange_7 : decode bX8_firstWordToChange.2.1 7 = .ok (.if_icmp .ge 22, 3) := by decide +kernel
theorem dX8_firstWordToChange_10 : decode bX8_firstWordToChange.2.1 10 = .ok (.aload_n 0, 1) := by decide +kernel
theorem dX8_firstWordToChange_11 : decode bX8_firstWordToChange.2.1 11 = .ok (.iload_n 1, 1) := by decide +kernel
theorem dX8_firstWordToChange_12 : decode bX8_firstWordToChange.2.1 12 = .ok (.invokevirtual 107, 3) := by decide +kernel
theorem dX8_firstWordToChange_15 : decode bX8_firstWordToChange.2.1 15 = .ok (.iconst (-1), 1) := by decide +kernel
theorem dX8_firstWordToChange_16 : decode bX8_firstWordToChange.2.1 16 = .ok (.if_icmp .eq 7, 3) := by decide +kernel
theorem dX8_firstWordToChange_19 : decode bX8_firstWordToChange.2.1 19 = .ok (.iload_n 1, 1) := by decide +kernel
theorem dX8_firstWordToChange_20 : decode bX8_firstWordToChange.2.1 20 = .ok (.iconst 1, 1) := by decide +kernel
theorem dX8_firstWordToChange_21 : decode bX8_firstWordToChange.2.1 21 = .ok (.isub, 1) := by decide +kernel
theorem dX8_firstWordToChange_22 : decode bX8_firstWordToChange.2.1 22 = .ok (.ireturn, 1) := by decide +kernel
theorem dX8_firstWordToChange_23 : decode bX8_firstWordToChange.2.1 23 = .ok (.iinc 1 1, 3) := by decide +kernel
theorem dX8_firstWordToChange_26 : decode bX8_firstWordToChange.2.1 26 = .ok (.goto (-24), 3) := by decide +kernel
theorem dX8_firstWordToChange_29 : decode bX8_firstWordToChange.2.1 29 = .ok (.iconst (-1), 1) := by decide +kernel
theorem dX8_firstWordToChange_30 : decode bX8_firstWordToChange.2.1 30 = .ok (.ireturn, 1) := by decide +kernel
