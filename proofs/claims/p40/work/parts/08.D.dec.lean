theorem dX11_init_0 : decode bX11_init.2.1 0 = .ok (.aload_n 0, 1) := by decide +kernel
theorem dX11_init_1 : decode bX11_init.2.1 1 = .ok (.invokespecial 1, 3) := by decide +kernel
theorem dX11_init_4 : decode bX11_init.2.1 4 = .ok (.aload_n 0, 1) := by decide +kernel
theorem dX11_init_5 : decode bX11_init.2.1 5 = .ok (.new 7, 3) := by decide +kernel
theorem dX11_init_8 : decode bX11_init.2.1 8 = .ok (.dup, 1) := by decide +kernel
theorem dX11_init_9 : decode bX11_init.2.1 9 = .ok (.invokespecial 9, 3) := by decide +kernel
theorem dX11_init_12 : decode bX11_init.2.1 12 = .ok (.putfield 10, 3) := by decide +kernel
theorem dX11_init_15 : decode bX11_init.2.1 15 = .ok (.aload_n 0, 1) := by decide +kernel
theorem dX11_init_16 : decode bX11_init.2.1 16 = .ok (.new 16, 3) := by decide +kernel
theorem dX11_init_19 : decode bX11_init.2.1 19 = .ok (.dup, 1) := by decide +kernel
theorem dX11_init_20 : decode bX11_init.2.1 20 = .ok (.aload_n 0, 1) := by decide +kernel
theorem dX11_init_21 : decode bX11_init.2.1 21 = .ok (.getfield 10, 3) := by decide +kernel
theorem dX11_init_24 : decode bX11_init.2.1 24 = .ok (.invokespecial 18, 3) := by decide +kernel
theorem dX11_init_27 : decode bX11_init.2.1 27 = .ok (.putfield 21, 3) := by decide +kernel
theorem dX11_init_30 : decode bX11_init.2.1 30 = .ok (.aload_n 0, 1) := by decide +kernel
theorem dX11_init_31 : decode bX11_init.2.1 31 = .ok (.new 25, 3) := by decide +kernel
theorem dX11_init_34 : decode bX11_init.2.1 34 = .ok (.dup, 1) := by decide +kernel
theorem dX11_init_35 : decode bX11_init.2.1 35 = .ok (.aload_n 0, 1) := by decide +kernel
theorem dX11_init_36 : decode bX11_init.2.1 36 = .ok (.getfield 10, 3) := by decide +kernel
theorem dX11_init_39 : decode bX11_init.2.1 39 = .ok (.invokespecial 27, 3) := by decide +kernel
theorem dX11_init_42 : decode bX11_init.2.1 42 = .ok (.putfield 28, 3) := by decide +kernel
theorem dX11_init_45 : decode bX11_init.2.1 45 = .ok (.aload_n 0, 1) := by decide +kernel
theorem dX11_init_46 : decode bX11_init.2.1 46 = .ok (.iconst 4, 1) := by decide +kernel
theorem dX11_init_47 : decode bX11_init.2.1 47 = .ok (.anewarray 32, 3) := by decide +kernel
theorem dX11_init_50 : decode bX11_init.2.1 50 = .ok (.putfield 34, 3) := by decide +kernel
theorem dX11_init_53 : decode bX11_init.2.1 53 = .ok (.iconst 0, 1) := by decide +kernel
theorem dX11_init_54 : decode bX11_init.2.1 54 = .ok (.istore_n 1, 1) := by decide +kernel
theorem dX11_init_55 : decode bX11_init.2.1 55 = .ok (.iload_n 1, 1) := by decide +kernel
theorem dX11_init_56 : decode bX11_init.2.1 56 = .ok (.aload_n 0, 1) := by decide +kernel
theorem dX11_init_57 : decode bX11_init.2.1 57 = .ok (.getfield 34, 3) := by decide +kernel
theorem dX11_init_60 : decode bX11_init.2.1 60 = .ok (.arraylength, 1) := by decide +kernel
theorem dX11_init_61 : decode bX11_init.2.1 61 = .ok (.if_icmp .ge 22, 3) := by decide +kernel
theorem dX11_init_64 : decode bX11_init.2.1 64 = .ok (.aload_n 0, 1) := by decide +kernel
theorem dX11_init_65 : decode bX11_init.2.1 65 = .ok (.getfield 34, 3) := by decide +kernel
theorem dX11_init_68 : decode bX11_init.2.1 68 = .ok (.iload_n 1, 1) := by decide +kernel
theorem dX11_init_69 : decode bX11_init.2.1 69 = .ok (.new 32, 3) := by decide +kernel
theorem dX11_init_72 : decode bX11_init.2.1 72 = .ok (.dup, 1) := by decide +kernel
theorem dX11_init_73 : decode bX11_init.2.1 73 = .ok (.invokespecial 38, 3) := by decide +kernel
theorem dX11_init_76 : decode bX11_init.2.1 76 = .ok (.aastore, 1) := by decide +kernel
theorem dX11_init_77 : decode bX11_init.2.1 77 = .ok (.iinc 1 1, 3) := by decide +kernel
theorem dX11_init_80 : decode bX11_init.2.1 80 = .ok (.goto (-25), 3) := by decide +kernel
theorem dX11_init_83 : decode bX11_init.2.1 83 = .ok (.aload_n 0, 1) := by decide +kernel
theorem dX11_init_84 : decode bX11_init.2.1 84 = .ok (.new 39, 3) := by decide +kernel
theorem dX11_init_87 : decode bX11_init.2.1 87 = .ok (.dup, 1) := by decide +kernel
theorem dX11_init_88 : decode bX11_init.2.1 88 = .ok (.invokespecial 41, 3) := by decide +kernel
theorem dX11_init_91 : decode bX11_init.2.1 91 = .ok (.putfield 42, 3) := by decide +kernel
theorem dX11_init_94 : decode bX11_init.2.1 94 = .ok (.aload_n 0, 1) := by decide +kernel
theorem dX11_init_95 : decode bX11_init.2.1 95 = .ok (.new 46, 3) := by decide +kernel
theorem dX11_init_98 : decode bX11_init.2.1 98 = .ok (.dup, 1) := by decide +kernel
theorem dX11_init_99 : decode bX11_init.2.1 99 = .ok (.aload_n 0, 1) := by decide +kernel
theorem dX11_init_100 : decode bX11_init.2.1 100 = .ok (.getfield 42, 3) := by decide +kernel
theorem dX11_init_103 : decode bX11_init.2.1 103 = .ok (.invokespecial 48, 3) := by decide +kernel
theorem dX11_init_106 : decode bX11_init.2.1 106 = .ok (.putfield 51, 3) := by decide +kernel
theorem dX11_init_109 : decode bX11_init.2.1 109 = .ok (.aload_n 0, 1) := by decide +kernel
theorem dX11_init_110 : decode bX11_init.2.1 110 = .ok (.new 55, 3) := by decide +kernel
theorem dX11_init_113 : decode bX11_init.2.1 113 = .ok (.dup, 1) := by decide +kernel
theorem dX11_init_114 : decode bX11_init.2.1 114 = .ok (.invokespecial 57, 3) := by decide +kernel
theorem dX11_init_117 : decode bX11_init.2.1 117 = .ok (.putfield 58, 3) := by decide +kernel
theorem dX11_init_120 : decode bX11_init.2.1 120 = .ok (.aload_n 0, 1) := by decide +kernel
theorem dX11_init_121 : decode bX11_init.2.1 121 = .ok (.new 62, 3) := by decide +kernel
theorem dX11_init_124 : decode bX11_init.2.1 124 = .ok (.dup, 1) := by decide +kernel
theorem dX11_init_125 : decode bX11_init.2.1 125 = .ok (.aload_n 0, 1) := by decide +kernel
theorem dX11_init_126 : decode bX11_init.2.1 126 = .ok (.getfield 42, 3) := by decide +kernel
theorem dX11_init_129 : decode bX11_init.2.1 129 = .ok (.aload_n 0, 1) := by decide +kernel
theorem dX11_init_130 : decode bX11_init.2.1 130 = .ok (.getfield 51, 3) := by decide +kernel
theorem dX11_init_133 : decode bX11_init.2.1 133 = .ok (.invokespecial 64, 3) := by decide +kernel
theorem dX11_init_136 : decode bX11_init.2.1 136 = .ok (.putfield 67, 3) := by decide +kernel
theorem dX11_init_139 : decode bX11_init.2.1 139 = .ok (.aload_n 0, 1) := by decide +kernel
theorem dX11_init_140 : decode bX11_init.2.1 140 = .ok (.new 71, 3) := by decide +kernel
theorem dX11_init_143 : decode bX11_init.2.1 143 = .ok (.dup, 1) := by decide +kernel
theorem dX11_init_144 : decode bX11_init.2.1 144 = .ok (.aload_n 0, 1) := by decide +kernel
theorem dX11_init_145 : decode bX11_init.2.1 145 = .ok (.getfield 42, 3) := by decide +kernel
theorem dX11_init_148 : decode bX11_init.2.1 148 = .ok (.aload_n 0, 1) := by decide +kernel
theorem dX11_init_149 : decode bX11_init.2.1 149 = .ok (.getfield 51, 3) := by decide +kernel
theorem dX11_init_152 : decode bX11_init.2.1 152 = .ok (.invokespecial 73, 3) := by decide +kernel
theorem dX11_init_155 : decode bX11_init.2.1 155 = .ok (.putfield 74, 3) := by decide +kernel
theorem dX11_init_158 : decode bX11_init.2.1 158 = .ok (.aload_n 0, 1) := by decide +kernel
theorem dX11_init_159 : decode bX11_init.2.1 159 = .ok (.new 71, 3) := by decide +kernel
theorem dX11_init_162 : decode bX11_init.2.1 162 = .ok (.dup, 1) := by decide +kernel
theorem dX11_init_163 : decode bX11_init.2.1 163 = .ok (.aload_n 0, 1) := by decide +kernel
theorem dX11_init_164 : decode bX11_init.2.1 164 = .ok (.getfield 42, 3) := by decide +kernel
theorem dX11_init_167 : decode bX11_init.2.1 167 = .ok (.aload_n 0, 1) := by decide +kernel
theorem dX11_init_168 : decode bX11_init.2.1 168 = .ok (.getfield 51, 3) := by decide +kernel
theorem dX11_init_171 : decode bX11_init.2.1 171 = .ok (.invokespecial 73, 3) := by decide +kernel
theorem dX11_init_174 : decode bX11_init.2.1 174 = .ok (.putfield 78, 3) := by decide +kernel
theorem dX11_init_177 : decode bX11_init.2.1 177 = .ok (.aload_n 0, 1) := by decide +kernel
theorem dX11_init_178 : decode bX11_init.2.1 178 = .ok (.new 81, 3) := by decide +kernel
theorem dX11_init_181 : decode bX11_init.2.1 181 = .ok (.dup, 1) := by decide +kernel
theorem dX11_init_182 : decode bX11_init.2.1 182 = .ok (.aload_n 0, 1) := by decide +kernel
theorem dX11_init_183 : decode bX11_init.2.1 183 = .ok (.getfield 42, 3) := by decide +kernel
theorem dX11_init_186 : decode bX11_init.2.1 186 = .ok (.aload_n 0, 1) := by decide +kernel
theorem dX11_init_187 : decode bX11_init.2.1 187 = .ok (.getfield 51, 3) := by decide +kernel
theorem dX11_init_190 : decode bX11_init.2.1 190 = .ok (.invokespecial 83, 3) := by decide +kernel
theorem dX11_init_193 : decode bX11_init.2.1 193 = .ok (.putfield 84, 3) := by decide +kernel
theorem dX11_init_196 : decode bX11_init.2.1 196 = .ok (.aload_n 0, 1) := by decide +kernel
theorem dX11_init_197 : decode bX11_init.2.1 197 = .ok (.iconst (-1), 1) := by decide +kernel
theorem dX11_init_198 : decode bX11_init.2.1 198 = .ok (.putfield 88, 3) := by decide +kernel
theorem dX11_init_201 : decode bX11_init.2.1 201 = .ok (.return_, 1) := by decide +kernel
theorem dX11_feed_0 : decode bX11_feed.2.1 0 = .ok (.iload_n 1, 1) := by decide +kernel
theorem dX11_feed_1 : decode bX11_feed.2.1 1 = .ok (.invokestatic 92, 3) := by decide +kernel
theorem dX11_feed_4 : decode bX11_feed.2.1 4 = .ok (.iload_n 2, 1) := by decide +kernel
theorem dX11_feed_5 : decode bX11_feed.2.1 5 = .ok (.invokestatic 92, 3) := by decide +kernel
theorem dX11_feed_8 : decode bX11_feed.2.1 8 = .ok (.iadd, 1) := by decide +kernel
theorem dX11_feed_9 : decode bX11_feed.2.1 9 = .ok (.iload_n 3, 1) := by decide +kernel
theorem dX11_feed_10 : decode bX11_feed.2.1 10 = .ok (.invokestatic 92, 3) := by decide +kernel
theorem dX11_feed_13 : decode bX11_feed.2.1 13 = .ok (.iadd, 1) := by decide +kernel
theorem dX11_feed_14 : decode bX11_feed.2.1 14 = .ok (.iload 4, 2) := by decide +kernel
theorem dX11_feed_16 : decode bX11_feed.2.1 16 = .ok (.invokestatic 92, 3) := by decide +kernel
theorem dX11_feed_19 : decode bX11_feed.2.1 19 = .ok (.iadd, 1) := by decide +kernel
theorem dX11_feed_20 : decode bX11_feed.2.1 20 = .ok (.iload 5, 2) := by decide +kernel
theorem dX11_feed_22 : decode bX11_feed.2.1 22 = .ok (.invokestatic 92, 3) := by decide +kernel
theorem dX11_feed_25 : decode bX11_feed.2.1 25 = .ok (.iadd, 1) := by decide +kernel
theorem dX11_feed_26 : decode bX11_feed.2.1 26 = .ok (.istore 6, 2) := by decide +kernel
theorem dX11_feed_28 : decode bX11_feed.2.1 28 = .ok (.aload_n 0, 1) := by decide +kernel
theorem dX11_feed_29 : decode bX11_feed.2.1 29 = .ok (.getfield 10, 3) := by decide +kernel
theorem dX11_feed_32 : decode bX11_feed.2.1 32 = .ok (.getfield 96, 3) := by decide +kernel
theorem dX11_feed_35 : decode bX11_feed.2.1 35 = .ok (.iload 6, 2) := by decide +kernel
theorem dX11_feed_37 : decode bX11_feed.2.1 37 = .ok (.iadd, 1) := by decide +kernel
theorem dX11_feed_38 : decode bX11_feed.2.1 38 = .ok (.sipush 160, 3) := by decide +kernel
theorem dX11_feed_41 : decode bX11_feed.2.1 41 = .ok (.if_icmp .le 5, 3) := by decide +kernel
theorem dX11_feed_44 : decode bX11_feed.2.1 44 = .ok (.iconst (-1), 1) := by decide +kernel
theorem dX11_feed_45 : decode bX11_feed.2.1 45 = .ok (.ireturn, 1) := by decide +kernel
theorem dX11_feed_46 : decode bX11_feed.2.1 46 = .ok (.aload_n 0, 1) := by decide +kernel
theorem dX11_feed_47 : decode bX11_feed.2.1 47 = .ok (.getfield 10, 3) := by decide +kernel
theorem dX11_feed_50 : decode bX11_feed.2.1 50 = .ok (.iload_n 1, 1) := by decide +kernel
theorem dX11_feed_51 : decode bX11_feed.2.1 51 = .ok (.invokevirtual 99, 3) := by decide +kernel
theorem dX11_feed_54 : decode bX11_feed.2.1 54 = .ok (.aload_n 0, 1) := by decide +kernel
theorem dX11_feed_55 : decode bX11_feed.2.1 55 = .ok (.getfield 10, 3) := by decide +kernel
theorem dX11_feed_58 : decode bX11_feed.2.1 58 = .ok (.iload_n 2, 1) := by decide +kernel
theorem dX11_feed_59 : decode bX11_feed.2.1 59 = .ok (.invokevirtual 99, 3) := by decide +kernel
theorem dX11_feed_62 : decode bX11_feed.2.1 62 = .ok (.aload_n 0, 1) := by decide +kernel
theorem dX11_feed_63 : decode bX11_feed.2.1 63 = .ok (.getfield 10, 3) := by decide +kernel
theorem dX11_feed_66 : decode bX11_feed.2.1 66 = .ok (.iload_n 3, 1) := by decide +kernel
theorem dX11_feed_67 : decode bX11_feed.2.1 67 = .ok (.invokevirtual 99, 3) := by decide +kernel
theorem dX11_feed_70 : decode bX11_feed.2.1 70 = .ok (.aload_n 0, 1) := by decide +kernel
theorem dX11_feed_71 : decode bX11_feed.2.1 71 = .ok (.getfield 10, 3) := by decide +kernel
theorem dX11_feed_74 : decode bX11_feed.2.1 74 = .ok (.iload 4, 2) := by decide +kernel
theorem dX11_feed_76 : decode bX11_feed.2.1 76 = .ok (.invokevirtual 99, 3) := by decide +kernel
theorem dX11_feed_79 : decode bX11_feed.2.1 79 = .ok (.aload_n 0, 1) := by decide +kernel
theorem dX11_feed_80 : decode bX11_feed.2.1 80 = .ok (.getfield 10, 3) := by decide +kernel
theorem dX11_feed_83 : decode bX11_feed.2.1 83 = .ok (.iload 5, 2) := by decide +kernel
theorem dX11_feed_85 : decode bX11_feed.2.1 85 = .ok (.invokevirtual 99, 3) := by decide +kernel
theorem dX11_feed_88 : decode bX11_feed.2.1 88 = .ok (.aload_n 0, 1) := by decide +kernel
theorem dX11_feed_89 : decode bX11_feed.2.1 89 = .ok (.getfield 10, 3) := by decide +kernel
theorem dX11_feed_92 : decode bX11_feed.2.1 92 = .ok (.getfield 96, 3) := by decide +kernel
theorem dX11_feed_95 : decode bX11_feed.2.1 95 = .ok (.ireturn, 1) := by decide +kernel
theorem dX11_end_0 : decode bX11_end.2.1 0 = .ok (.iload_n 1, 1) := by decide +kernel
theorem dX11_end_1 : decode bX11_end.2.1 1 = .ok (.ifCond .lt 14, 3) := by decide +kernel
theorem dX11_end_4 : decode bX11_end.2.1 4 = .ok (.iload_n 1, 1) := by decide +kernel
theorem dX11_end_5 : decode bX11_end.2.1 5 = .ok (.aload_n 0, 1) := by decide +kernel
theorem dX11_end_6 : decode bX11_end.2.1 6 = .ok (.getfield 10, 3) := by decide +kernel
theorem dX11_end_9 : decode bX11_end.2.1 9 = .ok (.getfield 96, 3) := by decide +kernel
theorem dX11_end_12 : decode bX11_end.2.1 12 = .ok (.if_icmp .le 5, 3) := by decide +kernel
theorem dX11_end_15 : decode bX11_end.2.1 15 = .ok (.iconst 0, 1) := by decide +kernel
theorem dX11_end_16 : decode bX11_end.2.1 16 = .ok (.ireturn, 1) := by decide +kernel
theorem dX11_end_17 : decode bX11_end.2.1 17 = .ok (.aload_n 0, 1) := by decide +kernel
theorem dX11_end_18 : decode bX11_end.2.1 18 = .ok (.getfield 10, 3) := by decide +kernel
theorem dX11_end_21 : decode bX11_end.2.1 21 = .ok (.iload_n 1, 1) := by decide +kernel
theorem dX11_end_22 : decode bX11_end.2.1 22 = .ok (.putfield 96, 3) := by decide +kernel
theorem dX11_end_25 : decode bX11_end.2.1 25 = .ok (.iconst 1, 1) := by decide +kernel
theorem dX11_end_26 : decode bX11_end.2.1 26 = .ok (.ireturn, 1) := by decide +kernel
theorem dX11_text_0 : decode bX11_text.2.1 0 = .ok (.iload_n 1, 1) := by decide +kernel
theorem dX11_text_1 : decode bX11_text.2.1 1 = .ok (.ifCond .ne 19, 3) := by decide +kernel
theorem dX11_text_4 : decode bX11_text.2.1 4 = .ok (.aload_n 0, 1) := by decide +kernel
theorem dX11_text_5 : decode bX11_text.2.1 5 = .ok (.getfield 21, 3) := by decide +kernel
theorem dX11_text_8 : decode bX11_text.2.1 8 = .ok (.invokevirtual 103, 3) := by decide +kernel
theorem dX11_text_11 : decode bX11_text.2.1 11 = .ok (.iconst (-1), 1) := by decide +kernel
theorem dX11_text_12 : decode bX11_text.2.1 12 = .ok (.if_icmp .ne 8, 3) := by decide +kernel
theorem dX11_text_15 : decode bX11_text.2.1 15 = .ok (.aload_n 0, 1) := by decide +kernel
theorem dX11_text_16 : decode bX11_text.2.1 16 = .ok (.invokevirtual 108, 3) := by decide +kernel
theorem dX11_text_19 : decode bX11_text.2.1 19 = .ok (.ireturn, 1) := by decide +kernel
theorem dX11_text_20 : decode bX11_text.2.1 20 = .ok (.iload_n 1, 1) := by decide +kernel
theorem dX11_text_21 : decode bX11_text.2.1 21 = .ok (.iconst 1, 1) := by decide +kernel
theorem dX11_text_22 : decode bX11_text.2.1 22 = .ok (.if_icmp .ne 67, 3) := by decide +kernel
theorem dX11_text_25 : decode bX11_text.2.1 25 = .ok (.aload_n 0, 1) := by decide +kernel
theorem dX11_text_26 : decode bX11_text.2.1 26 = .ok (.getfield 111, 3) := by decide +kernel
theorem dX11_text_29 : decode bX11_text.2.1 29 = .ok (.aload_n 0, 1) := by decide +kernel
theorem dX11_text_30 : decode bX11_text.2.1 30 = .ok (.getfield 34, 3) := by decide +kernel
theorem dX11_text_33 : decode bX11_text.2.1 33 = .ok (.arraylength, 1) := by decide +kernel
theorem dX11_text_34 : decode bX11_text.2.1 34 = .ok (.if_icmp .ge 55, 3) := by decide +kernel
theorem dX11_text_37 : decode bX11_text.2.1 37 = .ok (.aload_n 0, 1) := by decide +kernel
theorem dX11_text_38 : decode bX11_text.2.1 38 = .ok (.getfield 28, 3) := by decide +kernel
theorem dX11_text_41 : decode bX11_text.2.1 41 = .ok (.invokevirtual 107, 3) := by decide +kernel
theorem dX11_text_44 : decode bX11_text.2.1 44 = .ok (.iconst (-1), 1) := by decide +kernel
theorem dX11_text_45 : decode bX11_text.2.1 45 = .ok (.if_icmp .ne 44, 3) := by decide +kernel
theorem dX11_text_48 : decode bX11_text.2.1 48 = .ok (.aload_n 0, 1) := by decide +kernel
theorem dX11_text_49 : decode bX11_text.2.1 49 = .ok (.getfield 10, 3) := by decide +kernel
theorem dX11_text_52 : decode bX11_text.2.1 52 = .ok (.iconst 0, 1) := by decide +kernel
theorem dX11_text_53 : decode bX11_text.2.1 53 = .ok (.putfield 96, 3) := by decide +kernel
theorem dX11_text_56 : decode bX11_text.2.1 56 = .ok (.aload_n 0, 1) := by decide +kernel
theorem dX11_text_57 : decode bX11_text.2.1 57 = .ok (.getfield 34, 3) := by decide +kernel
theorem dX11_text_60 : decode bX11_text.2.1 60 = .ok (.aload_n 0, 1) := by decide +kernel
theorem dX11_text_61 : decode bX11_text.2.1 61 = .ok (.getfield 111, 3) := by decide +kernel
theorem dX11_text_64 : decode bX11_text.2.1 64 = .ok (.aaload, 1) := by decide +kernel
theorem dX11_text_65 : decode bX11_text.2.1 65 = .ok (.aload_n 0, 1) := by decide +kernel
theorem dX11_text_66 : decode bX11_text.2.1 66 = .ok (.getfield 28, 3) := by decide +kernel
theorem dX11_text_69 : decode bX11_text.2.1 69 = .ok (.invokevirtual 114, 3) := by decide +kernel
theorem dX11_text_72 : decode bX11_text.2.1 72 = .ok (.aload_n 0, 1) := by decide +kernel
theorem dX11_text_73 : decode bX11_text.2.1 73 = .ok (.dup, 1) := by decide +kernel
theorem dX11_text_74 : decode bX11_text.2.1 74 = .ok (.getfield 111, 3) := by decide +kernel
theorem dX11_text_77 : decode bX11_text.2.1 77 = .ok (.iconst 1, 1) := by decide +kernel
theorem dX11_text_78 : decode bX11_text.2.1 78 = .ok (.iadd, 1) := by decide +kernel
theorem dX11_text_79 : decode bX11_text.2.1 79 = .ok (.putfield 111, 3) := by decide +kernel
theorem dX11_text_82 : decode bX11_text.2.1 82 = .ok (.aload_n 0, 1) := by decide +kernel
theorem dX11_text_83 : decode bX11_text.2.1 83 = .ok (.getfield 111, 3) := by decide +kernel
theorem dX11_text_86 : decode bX11_text.2.1 86 = .ok (.iconst 1, 1) := by decide +kernel
theorem dX11_text_87 : decode bX11_text.2.1 87 = .ok (.isub, 1) := by decide +kernel
theorem dX11_text_88 : decode bX11_text.2.1 88 = .ok (.ireturn, 1) := by decide +kernel
theorem dX11_text_89 : decode bX11_text.2.1 89 = .ok (.iconst (-1), 1) := by decide +kernel
theorem dX11_text_90 : decode bX11_text.2.1 90 = .ok (.ireturn, 1) := by decide +kernel
theorem dX11_takeBook_0 : decode bX11_takeBook.2.1 0 = .ok (.aload_n 0, 1) := by decide +kernel
theorem dX11_takeBook_1 : decode bX11_takeBook.2.1 1 = .ok (.getfield 10, 3) := by decide +kernel
theorem dX11_takeBook_4 : decode bX11_takeBook.2.1 4 = .ok (.iconst 0, 1) := by decide +kernel
theorem dX11_takeBook_5 : decode bX11_takeBook.2.1 5 = .ok (.putfield 96, 3) := by decide +kernel
theorem dX11_takeBook_8 : decode bX11_takeBook.2.1 8 = .ok (.aload_n 0, 1) := by decide +kernel
theorem dX11_takeBook_9 : decode bX11_takeBook.2.1 9 = .ok (.getfield 42, 3) := by decide +kernel
theorem dX11_takeBook_12 : decode bX11_takeBook.2.1 12 = .ok (.aload_n 0, 1) := by decide +kernel
theorem dX11_takeBook_13 : decode bX11_takeBook.2.1 13 = .ok (.getfield 21, 3) := by decide +kernel
theorem dX11_takeBook_16 : decode bX11_takeBook.2.1 16 = .ok (.invokevirtual 118, 3) := by decide +kernel
theorem dX11_takeBook_19 : decode bX11_takeBook.2.1 19 = .ok (.aload_n 0, 1) := by decide +kernel
theorem dX11_takeBook_20 : decode bX11_takeBook.2.1 20 = .ok (.getfield 42, 3) := by decide +kernel
theorem dX11_takeBook_23 : decode bX11_takeBook.2.1 23 = .ok (.aload_n 0, 1) := by decide +kernel
theorem dX11_takeBook_24 : decode bX11_takeBook.2.1 24 = .ok (.invokevirtual 121, 3) := by decide +kernel
theorem dX11_takeBook_27 : decode bX11_takeBook.2.1 27 = .ok (.invokevirtual 125, 3) := by decide +kernel
theorem dX11_takeBook_30 : decode bX11_takeBook.2.1 30 = .ok (.aload_n 0, 1) := by decide +kernel
theorem dX11_takeBook_31 : decode bX11_takeBook.2.1 31 = .ok (.getfield 51, 3) := by decide +kernel
theorem dX11_takeBook_34 : decode bX11_takeBook.2.1 34 = .ok (.invokevirtual 129, 3) := by decide +kernel
theorem dX11_takeBook_37 : decode bX11_takeBook.2.1 37 = .ok (.aload_n 0, 1) := by decide +kernel
theorem dX11_takeBook_38 : decode bX11_takeBook.2.1 38 = .ok (.getfield 58, 3) := by decide +kernel
theorem dX11_takeBook_41 : decode bX11_takeBook.2.1 41 = .ok (.invokevirtual 132, 3) := by decide +kernel
theorem dX11_takeBook_44 : decode bX11_takeBook.2.1 44 = .ok (.aload_n 0, 1) := by decide +kernel
theorem dX11_takeBook_45 : decode bX11_takeBook.2.1 45 = .ok (.getfield 42, 3) := by decide +kernel
theorem dX11_takeBook_48 : decode bX11_takeBook.2.1 48 = .ok (.getfield 135, 3) := by decide +kernel
theorem dX11_takeBook_51 : decode bX11_takeBook.2.1 51 = .ok (.ireturn, 1) := by decide +kernel
theorem dX11_heldLaw_0 : decode bX11_heldLaw.2.1 0 = .ok (.aload_n 0, 1) := by decide +kernel
theorem dX11_heldLaw_1 : decode bX11_heldLaw.2.1 1 = .ok (.getfield 88, 3) := by decide +kernel
theorem dX11_heldLaw_4 : decode bX11_heldLaw.2.1 4 = .ok (.ifCond .lt 27, 3) := by decide +kernel
theorem dX11_heldLaw_7 : decode bX11_heldLaw.2.1 7 = .ok (.aload_n 0, 1) := by decide +kernel
theorem dX11_heldLaw_8 : decode bX11_heldLaw.2.1 8 = .ok (.getfield 88, 3) := by decide +kernel
theorem dX11_heldLaw_11 : decode bX11_heldLaw.2.1 11 = .ok (.aload_n 0, 1) := by decide +kernel
theorem dX11_heldLaw_12 : decode bX11_heldLaw.2.1 12 = .ok (.getfield 34, 3) := by decide +kernel
theorem dX11_heldLaw_15 : decode bX11_heldLaw.2.1 15 = .ok (.arraylength, 1) := by decide +kernel
theorem dX11_heldLaw_16 : decode bX11_heldLaw.2.1 16 = .ok (.if_icmp .ge 15, 3) := by decide +kernel
theorem dX11_heldLaw_19 : decode bX11_heldLaw.2.1 19 = .ok (.aload_n 0, 1) := by decide +kernel
theorem dX11_heldLaw_20 : decode bX11_heldLaw.2.1 20 = .ok (.getfield 34, 3) := by decide +kernel
theorem dX11_heldLaw_23 : decode bX11_heldLaw.2.1 23 = .ok (.aload_n 0, 1) := by decide +kernel
theorem dX11_heldLaw_24 : decode bX11_heldLaw.2.1 24 = .ok (.getfield 88, 3) := by decide +kernel
theorem dX11_heldLaw_27 : decode bX11_heldLaw.2.1 27 = .ok (.aaload, 1) := by decide +kernel
theorem dX11_heldLaw_28 : decode bX11_heldLaw.2.1 28 = .ok (.goto 4, 3) := by decide +kernel
theorem dX11_heldLaw_31 : decode bX11_heldLaw.2.1 31 = .ok (.aconst_null, 1) := by decide +kernel
theorem dX11_heldLaw_32 : decode bX11_heldLaw.2.1 32 = .ok (.areturn, 1) := by decide +kernel
theorem dX11_speech_0 : decode bX11_speech.2.1 0 = .ok (.aload_n 0, 1) := by decide +kernel
theorem dX11_speech_1 : decode bX11_speech.2.1 1 = .ok (.getfield 42, 3) := by decide +kernel
theorem dX11_speech_4 : decode bX11_speech.2.1 4 = .ok (.iload_n 1, 1) := by decide +kernel
theorem dX11_speech_5 : decode bX11_speech.2.1 5 = .ok (.invokevirtual 136, 3) := by decide +kernel
theorem dX11_speech_8 : decode bX11_speech.2.1 8 = .ok (.ifCond .eq 13, 3) := by decide +kernel
theorem dX11_speech_11 : decode bX11_speech.2.1 11 = .ok (.iload_n 2, 1) := by decide +kernel
theorem dX11_speech_12 : decode bX11_speech.2.1 12 = .ok (.ifCond .lt 9, 3) := by decide +kernel
theorem dX11_speech_15 : decode bX11_speech.2.1 15 = .ok (.iload_n 2, 1) := by decide +kernel
theorem dX11_speech_16 : decode bX11_speech.2.1 16 = .ok (.bipush 9, 2) := by decide +kernel
theorem dX11_speech_18 : decode bX11_speech.2.1 18 = .ok (.if_icmp .le 13, 3) := by decide +kernel
theorem dX11_speech_21 : decode bX11_speech.2.1 21 = .ok (.new 140, 3) := by decide +kernel
theorem dX11_speech_24 : decode bX11_speech.2.1 24 = .ok (.dup, 1) := by decide +kernel
theorem dX11_speech_25 : decode bX11_speech.2.1 25 = .ok (.ldc 142, 2) := by decide +kernel
theorem dX11_speech_27 : decode bX11_speech.2.1 27 = .ok (.invokespecial 144, 3) := by decide +kernel
theorem dX11_speech_30 : decode bX11_speech.2.1 30 = .ok (.athrow, 1) := by decide +kernel
theorem dX11_speech_31 : decode bX11_speech.2.1 31 = .ok (.iload_n 2, 1) := by decide +kernel
theorem dX11_speech_32 : decode bX11_speech.2.1 32 = .ok (.tableswitch 156 0 8 #[52, 62, 72, 82, 92, 102, 112, 129, 146], 52) := by decide +kernel
theorem dX11_speech_84 : decode bX11_speech.2.1 84 = .ok (.aload_n 0, 1) := by decide +kernel
theorem dX11_speech_85 : decode bX11_speech.2.1 85 = .ok (.getfield 42, 3) := by decide +kernel
theorem dX11_speech_88 : decode bX11_speech.2.1 88 = .ok (.getfield 147, 3) := by decide +kernel
theorem dX11_speech_91 : decode bX11_speech.2.1 91 = .ok (.iload_n 1, 1) := by decide +kernel
theorem dX11_speech_92 : decode bX11_speech.2.1 92 = .ok (.iaload, 1) := by decide +kernel
theorem dX11_speech_93 : decode bX11_speech.2.1 93 = .ok (.ireturn, 1) := by decide +kernel
theorem dX11_speech_94 : decode bX11_speech.2.1 94 = .ok (.aload_n 0, 1) := by decide +kernel
theorem dX11_speech_95 : decode bX11_speech.2.1 95 = .ok (.getfield 42, 3) := by decide +kernel
theorem dX11_speech_98 : decode bX11_speech.2.1 98 = .ok (.getfield 151, 3) := by decide +kernel
theorem dX11_speech_101 : decode bX11_speech.2.1 101 = .ok (.iload_n 1, 1) := by decide +kernel
theorem dX11_speech_102 : decode bX11_speech.2.1 102 = .ok (.iaload, 1) := by decide +kernel
theorem dX11_speech_103 : decode bX11_speech.2.1 103 = .ok (.ireturn, 1) := by decide +kernel
theorem dX11_speech_104 : decode bX11_speech.2.1 104 = .ok (.aload_n 0, 1) := by decide +kernel
theorem dX11_speech_105 : decode bX11_speech.2.1 105 = .ok (.getfield 42, 3) := by decide +kernel
theorem dX11_speech_108 : decode bX11_speech.2.1 108 = .ok (.getfield 154, 3) := by decide +kernel
theorem dX11_speech_111 : decode bX11_speech.2.1 111 = .ok (.iload_n 1, 1) := by decide +kernel
theorem dX11_speech_112 : decode bX11_speech.2.1 112 = .ok (.iaload, 1) := by decide +kernel
theorem dX11_speech_113 : decode bX11_speech.2.1 113 = .ok (.ireturn, 1) := by decide +kernel
theorem dX11_speech_114 : decode bX11_speech.2.1 114 = .ok (.aload_n 0, 1) := by decide +kernel
theorem dX11_speech_115 : decode bX11_speech.2.1 115 = .ok (.getfield 42, 3) := by decide +kernel
theorem dX11_speech_118 : decode bX11_speech.2.1 118 = .ok (.getfield 157, 3) := by decide +kernel
theorem dX11_speech_121 : decode bX11_speech.2.1 121 = .ok (.iload_n 1, 1) := by decide +kernel
theorem dX11_speech_122 : decode bX11_speech.2.1 122 = .ok (.iaload, 1) := by decide +kernel
theorem dX11_speech_123 : decode bX11_speech.2.1 123 = .ok (.ireturn, 1) := by decide +kernel
theorem dX11_speech_124 : decode bX11_speech.2.1 124 = .ok (.aload_n 0, 1) := by decide +kernel
theorem dX11_speech_125 : decode bX11_speech.2.1 125 = .ok (.getfield 42, 3) := by decide +kernel
theorem dX11_speech_128 : decode bX11_speech.2.1 128 = .ok (.getfield 160, 3) := by decide +kernel
theorem dX11_speech_131 : decode bX11_speech.2.1 131 = .ok (.iload_n 1, 1) := by decide +kernel
theorem dX11_speech_132 : decode bX11_speech.2.1 132 = .ok (.iaload, 1) := by decide +kernel
theorem dX11_speech_133 : decode bX11_speech.2.1 133 = .ok (.ireturn, 1) := by decide +kernel
theorem dX11_speech_134 : decode bX11_speech.2.1 134 = .ok (.aload_n 0, 1) := by decide +kernel
theorem dX11_speech_135 : decode bX11_speech.2.1 135 = .ok (.getfield 42, 3) := by decide +kernel
theorem dX11_speech_138 : decode bX11_speech.2.1 138 = .ok (.getfield 163, 3) := by decide +kernel
theorem dX11_speech_141 : decode bX11_speech.2.1 141 = .ok (.iload_n 1, 1) := by decide +kernel
theorem dX11_speech_142 : decode bX11_speech.2.1 142 = .ok (.iaload, 1) := by decide +kernel
theorem dX11_speech_143 : decode bX11_speech.2.1 143 = .ok (.ireturn, 1) := by decide +kernel
theorem dX11_speech_144 : decode bX11_speech.2.1 144 = .ok (.aload_n 0, 1) := by decide +kernel
theorem dX11_speech_145 : decode bX11_speech.2.1 145 = .ok (.getfield 58, 3) := by decide +kernel
theorem dX11_speech_148 : decode bX11_speech.2.1 148 = .ok (.iload_n 1, 1) := by decide +kernel
theorem dX11_speech_149 : decode bX11_speech.2.1 149 = .ok (.invokevirtual 166, 3) := by decide +kernel
theorem dX11_speech_152 : decode bX11_speech.2.1 152 = .ok (.ifCond .eq 7, 3) := by decide +kernel
theorem dX11_speech_155 : decode bX11_speech.2.1 155 = .ok (.iconst 1, 1) := by decide +kernel
theorem dX11_speech_156 : decode bX11_speech.2.1 156 = .ok (.goto 4, 3) := by decide +kernel
theorem dX11_speech_159 : decode bX11_speech.2.1 159 = .ok (.iconst 0, 1) := by decide +kernel
theorem dX11_speech_160 : decode bX11_speech.2.1 160 = .ok (.ireturn, 1) := by decide +kernel
theorem dX11_speech_161 : decode bX11_speech.2.1 161 = .ok (.aload_n 0, 1) := by decide +kernel
theorem dX11_speech_162 : decode bX11_speech.2.1 162 = .ok (.getfield 42, 3) := by decide +kernel
theorem dX11_speech_165 : decode bX11_speech.2.1 165 = .ok (.iload_n 1, 1) := by decide +kernel
theorem dX11_speech_166 : decode bX11_speech.2.1 166 = .ok (.aload_n 0, 1) := by decide +kernel
theorem dX11_speech_167 : decode bX11_speech.2.1 167 = .ok (.getfield 58, 3) := by decide +kernel
theorem dX11_speech_170 : decode bX11_speech.2.1 170 = .ok (.iload_n 1, 1) := by decide +kernel
theorem dX11_speech_171 : decode bX11_speech.2.1 171 = .ok (.invokevirtual 166, 3) := by decide +kernel
theorem dX11_speech_174 : decode bX11_speech.2.1 174 = .ok (.invokevirtual 169, 3) := by decide +kernel
theorem dX11_speech_177 : decode bX11_speech.2.1 177 = .ok (.ireturn, 1) := by decide +kernel
theorem dX11_speech_178 : decode bX11_speech.2.1 178 = .ok (.aload_n 0, 1) := by decide +kernel
theorem dX11_speech_179 : decode bX11_speech.2.1 179 = .ok (.getfield 42, 3) := by decide +kernel
theorem dX11_speech_182 : decode bX11_speech.2.1 182 = .ok (.getfield 173, 3) := by decide +kernel
theorem dX11_speech_185 : decode bX11_speech.2.1 185 = .ok (.iload_n 1, 1) := by decide +kernel
theorem dX11_speech_186 : decode bX11_speech.2.1 186 = .ok (.iaload, 1) := by decide +kernel
theorem dX11_speech_187 : decode bX11_speech.2.1 187 = .ok (.ireturn, 1) := by decide +kernel
theorem dX11_speech_188 : decode bX11_speech.2.1 188 = .ok (.aload_n 0, 1) := by decide +kernel
theorem dX11_speech_189 : decode bX11_speech.2.1 189 = .ok (.getfield 58, 3) := by decide +kernel
theorem dX11_speech_192 : decode bX11_speech.2.1 192 = .ok (.getfield 176, 3) := by decide +kernel
theorem dX11_speech_195 : decode bX11_speech.2.1 195 = .ok (.iload_n 1, 1) := by decide +kernel
theorem dX11_speech_196 : decode bX11_speech.2.1 196 = .ok (.iaload, 1) := by decide +kernel
theorem dX11_speech_197 : decode bX11_speech.2.1 197 = .ok (.ireturn, 1) := by decide +kernel
theorem dX11_law_0 : decode bX11_law.2.1 0 = .ok (.iload_n 1, 1) := by decide +kernel
theorem dX11_law_1 : decode bX11_law.2.1 1 = .ok (.iconst (-1), 1) := by decide +kernel
theorem dX11_law_2 : decode bX11_law.2.1 2 = .ok (.if_icmp .lt 11, 3) := by decide +kernel
theorem dX11_law_5 : decode bX11_law.2.1 5 = .ok (.iload_n 1, 1) := by decide +kernel
theorem dX11_law_6 : decode bX11_law.2.1 6 = .ok (.aload_n 0, 1) := by decide +kernel
theorem dX11_law_7 : decode bX11_law.2.1 7 = .ok (.getfield 111, 3) := by decide +kernel
theorem dX11_law_10 : decode bX11_law.2.1 10 = .ok (.if_icmp .lt 5, 3) := by decide +kernel
theorem dX11_law_13 : decode bX11_law.2.1 13 = .ok (.iconst 0, 1) := by decide +kernel
theorem dX11_law_14 : decode bX11_law.2.1 14 = .ok (.ireturn, 1) := by decide +kernel
theorem dX11_law_15 : decode bX11_law.2.1 15 = .ok (.aload_n 0, 1) := by decide +kernel
theorem dX11_law_16 : decode bX11_law.2.1 16 = .ok (.iload_n 1, 1) := by decide +kernel
theorem dX11_law_17 : decode bX11_law.2.1 17 = .ok (.putfield 88, 3) := by decide +kernel
theorem dX11_law_20 : decode bX11_law.2.1 20 = .ok (.aload_n 0, 1) := by decide +kernel
theorem dX11_law_21 : decode bX11_law.2.1 21 = .ok (.getfield 42, 3) := by decide +kernel
theorem dX11_law_24 : decode bX11_law.2.1 24 = .ok (.aload_n 0, 1) := by decide +kernel
theorem dX11_law_25 : decode bX11_law.2.1 25 = .ok (.invokevirtual 121, 3) := by decide +kernel
theorem dX11_law_28 : decode bX11_law.2.1 28 = .ok (.invokevirtual 125, 3) := by decide +kernel
theorem dX11_law_31 : decode bX11_law.2.1 31 = .ok (.iconst 1, 1) := by decide +kernel
theorem dX11_law_32 : decode bX11_law.2.1 32 = .ok (.ireturn, 1) := by decide +kernel
theorem dX11_set_0 : decode bX11_set.2.1 0 = .ok (.iload_n 1, 1) := by decide +kernel
theorem dX11_set_1 : decode bX11_set.2.1 1 = .ok (.invokestatic 179, 3) := by decide +kernel
theorem dX11_set_4 : decode bX11_set.2.1 4 = .ok (.ifCond .eq 7, 3) := by decide +kernel
theorem dX11_set_7 : decode bX11_set.2.1 7 = .ok (.iload_n 3, 1) := by decide +kernel
theorem dX11_set_8 : decode bX11_set.2.1 8 = .ok (.ifCond .ge 5, 3) := by decide +kernel
theorem dX11_set_11 : decode bX11_set.2.1 11 = .ok (.iconst 0, 1) := by decide +kernel
theorem dX11_set_12 : decode bX11_set.2.1 12 = .ok (.ireturn, 1) := by decide +kernel
theorem dX11_set_13 : decode bX11_set.2.1 13 = .ok (.iload_n 2, 1) := by decide +kernel
theorem dX11_set_14 : decode bX11_set.2.1 14 = .ok (.ifCond .ne 27, 3) := by decide +kernel
theorem dX11_set_17 : decode bX11_set.2.1 17 = .ok (.iload_n 3, 1) := by decide +kernel
theorem dX11_set_18 : decode bX11_set.2.1 18 = .ok (.iconst 3, 1) := by decide +kernel
theorem dX11_set_19 : decode bX11_set.2.1 19 = .ok (.if_icmp .gt 22, 3) := by decide +kernel
theorem dX11_set_22 : decode bX11_set.2.1 22 = .ok (.aload_n 0, 1) := by decide +kernel
theorem dX11_set_23 : decode bX11_set.2.1 23 = .ok (.getfield 51, 3) := by decide +kernel
theorem dX11_set_26 : decode bX11_set.2.1 26 = .ok (.getfield 182, 3) := by decide +kernel
theorem dX11_set_29 : decode bX11_set.2.1 29 = .ok (.iload_n 1, 1) := by decide +kernel
theorem dX11_set_30 : decode bX11_set.2.1 30 = .ok (.iload_n 3, 1) := by decide +kernel
theorem dX11_set_31 : decode bX11_set.2.1 31 = .ok (.iastore, 1) := by decide +kernel
theorem dX11_set_32 : decode bX11_set.2.1 32 = .ok (.aload_n 0, 1) := by decide +kernel
theorem dX11_set_33 : decode bX11_set.2.1 33 = .ok (.getfield 51, 3) := by decide +kernel
theorem dX11_set_36 : decode bX11_set.2.1 36 = .ok (.invokevirtual 129, 3) := by decide +kernel
theorem dX11_set_39 : decode bX11_set.2.1 39 = .ok (.iconst 1, 1) := by decide +kernel
theorem dX11_set_40 : decode bX11_set.2.1 40 = .ok (.ireturn, 1) := by decide +kernel
theorem dX11_set_41 : decode bX11_set.2.1 41 = .ok (.iload_n 2, 1) := by decide +kernel
theorem dX11_set_42 : decode bX11_set.2.1 42 = .ok (.iconst 1, 1) := by decide +kernel
theorem dX11_set_43 : decode bX11_set.2.1 43 = .ok (.if_icmp .ne 21, 3) := by decide +kernel
theorem dX11_set_46 : decode bX11_set.2.1 46 = .ok (.iload_n 3, 1) := by decide +kernel
theorem dX11_set_47 : decode bX11_set.2.1 47 = .ok (.bipush 100, 2) := by decide +kernel
theorem dX11_set_49 : decode bX11_set.2.1 49 = .ok (.if_icmp .gt 15, 3) := by decide +kernel
theorem dX11_set_52 : decode bX11_set.2.1 52 = .ok (.aload_n 0, 1) := by decide +kernel
theorem dX11_set_53 : decode bX11_set.2.1 53 = .ok (.getfield 51, 3) := by decide +kernel
theorem dX11_set_56 : decode bX11_set.2.1 56 = .ok (.getfield 185, 3) := by decide +kernel
theorem dX11_set_59 : decode bX11_set.2.1 59 = .ok (.iload_n 1, 1) := by decide +kernel
theorem dX11_set_60 : decode bX11_set.2.1 60 = .ok (.iload_n 3, 1) := by decide +kernel
theorem dX11_set_61 : decode bX11_set.2.1 61 = .ok (.iastore, 1) := by decide +kernel
theorem dX11_set_62 : decode bX11_set.2.1 62 = .ok (.iconst 1, 1) := by decide +kernel
theorem dX11_set_63 : decode bX11_set.2.1 63 = .ok (.ireturn, 1) := by decide +kernel
theorem dX11_set_64 : decode bX11_set.2.1 64 = .ok (.iconst 0, 1) := by decide +kernel
theorem dX11_set_65 : decode bX11_set.2.1 65 = .ok (.ireturn, 1) := by decide +kernel
theorem dX11_isActor_0 : decode bX11_isActor.2.1 0 = .ok (.iload_n 0, 1) := by decide +kernel
theorem dX11_isActor_1 : decode bX11_isActor.2.1 1 = .ok (.ifCond .lt 13, 3) := by decide +kernel
theorem dX11_isActor_4 : decode bX11_isActor.2.1 4 = .ok (.iload_n 0, 1) := by decide +kernel
theorem dX11_isActor_5 : decode bX11_isActor.2.1 5 = .ok (.bipush 8, 2) := by decide +kernel
theorem dX11_isActor_7 : decode bX11_isActor.2.1 7 = .ok (.if_icmp .ge 7, 3) := by decide +kernel
theorem dX11_isActor_10 : decode bX11_isActor.2.1 10 = .ok (.iconst 1, 1) := by decide +kernel
theorem dX11_isActor_11 : decode bX11_isActor.2.1 11 = .ok (.goto 4, 3) := by decide +kernel
theorem dX11_isActor_14 : decode bX11_isActor.2.1 14 = .ok (.iconst 0, 1) := by decide +kernel
theorem dX11_isActor_15 : decode bX11_isActor.2.1 15 = .ok (.ireturn, 1) := by decide +kernel
theorem dX11_mark_0 : decode bX11_mark.2.1 0 = .ok (.aload_n 0, 1) := by decide +kernel
theorem dX11_mark_1 : decode bX11_mark.2.1 1 = .ok (.getfield 42, 3) := by decide +kernel
theorem dX11_mark_4 : decode bX11_mark.2.1 4 = .ok (.iload_n 1, 1) := by decide +kernel
theorem dX11_mark_5 : decode bX11_mark.2.1 5 = .ok (.invokevirtual 136, 3) := by decide +kernel
theorem dX11_mark_8 : decode bX11_mark.2.1 8 = .ok (.ifCond .eq 15, 3) := by decide +kernel
theorem dX11_mark_11 : decode bX11_mark.2.1 11 = .ok (.aload_n 0, 1) := by decide +kernel
theorem dX11_mark_12 : decode bX11_mark.2.1 12 = .ok (.getfield 58, 3) := by decide +kernel
theorem dX11_mark_15 : decode bX11_mark.2.1 15 = .ok (.iload_n 1, 1) := by decide +kernel
theorem dX11_mark_16 : decode bX11_mark.2.1 16 = .ok (.invokevirtual 166, 3) := by decide +kernel
theorem dX11_mark_19 : decode bX11_mark.2.1 19 = .ok (.iload_n 2, 1) := by decide +kernel
theorem dX11_mark_20 : decode bX11_mark.2.1 20 = .ok (.if_icmp .ne 5, 3) := by decide +kernel
theorem dX11_mark_23 : decode bX11_mark.2.1 23 = .ok (.iconst 0, 1) := by decide +kernel
theorem dX11_mark_24 : decode bX11_mark.2.1 24 = .ok (.ireturn, 1) := by decide +kernel
theorem dX11_mark_25 : decode bX11_mark.2.1 25 = .ok (.aload_n 0, 1) := by decide +kernel
theorem dX11_mark_26 : decode bX11_mark.2.1 26 = .ok (.getfield 58, 3) := by decide +kernel
theorem dX11_mark_29 : decode bX11_mark.2.1 29 = .ok (.dup, 1) := by decide +kernel
theorem dX11_mark_30 : decode bX11_mark.2.1 30 = .ok (.getfield 188, 3) := by decide +kernel
theorem dX11_mark_33 : decode bX11_mark.2.1 33 = .ok (.iconst 1, 1) := by decide +kernel
theorem dX11_mark_34 : decode bX11_mark.2.1 34 = .ok (.iload_n 1, 1) := by decide +kernel
theorem dX11_mark_35 : decode bX11_mark.2.1 35 = .ok (.ishl, 1) := by decide +kernel
theorem dX11_mark_36 : decode bX11_mark.2.1 36 = .ok (.ixor, 1) := by decide +kernel
theorem dX11_mark_37 : decode bX11_mark.2.1 37 = .ok (.putfield 188, 3) := by decide +kernel
theorem dX11_mark_40 : decode bX11_mark.2.1 40 = .ok (.iconst 1, 1) := by decide +kernel
theorem dX11_mark_41 : decode bX11_mark.2.1 41 = .ok (.ireturn, 1) := by decide +kernel
theorem dX11_leap_0 : decode bX11_leap.2.1 0 = .ok (.aload_n 0, 1) := by decide +kernel
theorem dX11_leap_1 : decode bX11_leap.2.1 1 = .ok (.getfield 42, 3) := by decide +kernel
theorem dX11_leap_4 : decode bX11_leap.2.1 4 = .ok (.iload_n 1, 1) := by decide +kernel
theorem dX11_leap_5 : decode bX11_leap.2.1 5 = .ok (.invokevirtual 136, 3) := by decide +kernel
theorem dX11_leap_8 : decode bX11_leap.2.1 8 = .ok (.ifCond .eq 15, 3) := by decide +kernel
theorem dX11_leap_11 : decode bX11_leap.2.1 11 = .ok (.aload_n 0, 1) := by decide +kernel
theorem dX11_leap_12 : decode bX11_leap.2.1 12 = .ok (.getfield 51, 3) := by decide +kernel
theorem dX11_leap_15 : decode bX11_leap.2.1 15 = .ok (.getfield 191, 3) := by decide +kernel
theorem dX11_leap_18 : decode bX11_leap.2.1 18 = .ok (.iload_n 1, 1) := by decide +kernel
theorem dX11_leap_19 : decode bX11_leap.2.1 19 = .ok (.iaload, 1) := by decide +kernel
theorem dX11_leap_20 : decode bX11_leap.2.1 20 = .ok (.goto 5, 3) := by decide +kernel
theorem dX11_leap_23 : decode bX11_leap.2.1 23 = .ok (.ldc 194, 2) := by decide +kernel
theorem dX11_leap_25 : decode bX11_leap.2.1 25 = .ok (.ireturn, 1) := by decide +kernel
theorem dX11_evening_0 : decode bX11_evening.2.1 0 = .ok (.aload_n 0, 1) := by decide +kernel
theorem dX11_evening_1 : decode bX11_evening.2.1 1 = .ok (.getfield 42, 3) := by decide +kernel
theorem dX11_evening_4 : decode bX11_evening.2.1 4 = .ok (.iload_n 1, 1) := by decide +kernel
theorem dX11_evening_5 : decode bX11_evening.2.1 5 = .ok (.invokevirtual 195, 3) := by decide +kernel
theorem dX11_evening_8 : decode bX11_evening.2.1 8 = .ok (.ifCond .eq 8, 3) := by decide +kernel
theorem dX11_evening_11 : decode bX11_evening.2.1 11 = .ok (.iload_n 2, 1) := by decide +kernel
theorem dX11_evening_12 : decode bX11_evening.2.1 12 = .ok (.iconst (-1), 1) := by decide +kernel
theorem dX11_evening_13 : decode bX11_evening.2.1 13 = .ok (.if_icmp .ge 5, 3) := by decide +kernel
theorem dX11_evening_16 : decode bX11_evening.2.1 16 = .ok (.iconst (-1), 1) := by decide +kernel
theorem dX11_evening_17 : decode bX11_evening.2.1 17 = .ok (.ireturn, 1) := by decide +kernel
theorem dX11_evening_18 : decode bX11_evening.2.1 18 = .ok (.aload_n 0, 1) := by decide +kernel
theorem dX11_evening_19 : decode bX11_evening.2.1 19 = .ok (.getfield 67, 3) := by decide +kernel
theorem dX11_evening_22 : decode bX11_evening.2.1 22 = .ok (.iload_n 1, 1) := by decide +kernel
theorem dX11_evening_23 : decode bX11_evening.2.1 23 = .ok (.invokevirtual 198, 3) := by decide +kernel
theorem dX11_evening_26 : decode bX11_evening.2.1 26 = .ok (.iload_n 2, 1) := by decide +kernel
theorem dX11_evening_27 : decode bX11_evening.2.1 27 = .ok (.iconst (-1), 1) := by decide +kernel
theorem dX11_evening_28 : decode bX11_evening.2.1 28 = .ok (.if_icmp .ne 11, 3) := by decide +kernel
theorem dX11_evening_31 : decode bX11_evening.2.1 31 = .ok (.aload_n 0, 1) := by decide +kernel
theorem dX11_evening_32 : decode bX11_evening.2.1 32 = .ok (.getfield 67, 3) := by decide +kernel
theorem dX11_evening_35 : decode bX11_evening.2.1 35 = .ok (.getfield 200, 3) := by decide +kernel
theorem dX11_evening_38 : decode bX11_evening.2.1 38 = .ok (.ireturn, 1) := by decide +kernel
theorem dX11_evening_39 : decode bX11_evening.2.1 39 = .ok (.iload_n 2, 1) := by decide +kernel
theorem dX11_evening_40 : decode bX11_evening.2.1 40 = .ok (.aload_n 0, 1) := by decide +kernel
theorem dX11_evening_41 : decode bX11_evening.2.1 41 = .ok (.getfield 67, 3) := by decide +kernel
theorem dX11_evening_44 : decode bX11_evening.2.1 44 = .ok (.getfield 200, 3) := by decide +kernel
theorem dX11_evening_47 : decode bX11_evening.2.1 47 = .ok (.if_icmp .ge 27, 3) := by decide +kernel
theorem dX11_evening_50 : decode bX11_evening.2.1 50 = .ok (.iload_n 2, 1) := by decide +kernel
theorem dX11_evening_51 : decode bX11_evening.2.1 51 = .ok (.aload_n 0, 1) := by decide +kernel
theorem dX11_evening_52 : decode bX11_evening.2.1 52 = .ok (.getfield 67, 3) := by decide +kernel
theorem dX11_evening_55 : decode bX11_evening.2.1 55 = .ok (.getfield 203, 3) := by decide +kernel
theorem dX11_evening_58 : decode bX11_evening.2.1 58 = .ok (.arraylength, 1) := by decide +kernel
theorem dX11_evening_59 : decode bX11_evening.2.1 59 = .ok (.if_icmp .ge 15, 3) := by decide +kernel
theorem dX11_evening_62 : decode bX11_evening.2.1 62 = .ok (.aload_n 0, 1) := by decide +kernel
theorem dX11_evening_63 : decode bX11_evening.2.1 63 = .ok (.getfield 67, 3) := by decide +kernel
theorem dX11_evening_66 : decode bX11_evening.2.1 66 = .ok (.getfield 203, 3) := by decide +kernel
theorem dX11_evening_69 : decode bX11_evening.2.1 69 = .ok (.iload_n 2, 1) := by decide +kernel
theorem dX11_evening_70 : decode bX11_evening.2.1 70 = .ok (.iaload, 1) := by decide +kernel
theorem dX11_evening_71 : decode bX11_evening.2.1 71 = .ok (.goto 4, 3) := by decide +kernel
theorem dX11_evening_74 : decode bX11_evening.2.1 74 = .ok (.iconst (-1), 1) := by decide +kernel
theorem dX11_evening_75 : decode bX11_evening.2.1 75 = .ok (.ireturn, 1) := by decide +kernel
theorem dX11_ends_0 : decode bX11_ends.2.1 0 = .ok (.aload_n 0, 1) := by decide +kernel
theorem dX11_ends_1 : decode bX11_ends.2.1 1 = .ok (.getfield 42, 3) := by decide +kernel
theorem dX11_ends_4 : decode bX11_ends.2.1 4 = .ok (.iload_n 1, 1) := by decide +kernel
theorem dX11_ends_5 : decode bX11_ends.2.1 5 = .ok (.invokevirtual 195, 3) := by decide +kernel
theorem dX11_ends_8 : decode bX11_ends.2.1 8 = .ok (.ifCond .eq 12, 3) := by decide +kernel
theorem dX11_ends_11 : decode bX11_ends.2.1 11 = .ok (.iload_n 2, 1) := by decide +kernel
theorem dX11_ends_12 : decode bX11_ends.2.1 12 = .ok (.ifCond .lt 8, 3) := by decide +kernel
theorem dX11_ends_15 : decode bX11_ends.2.1 15 = .ok (.iload_n 2, 1) := by decide +kernel
theorem dX11_ends_16 : decode bX11_ends.2.1 16 = .ok (.iconst 2, 1) := by decide +kernel
theorem dX11_ends_17 : decode bX11_ends.2.1 17 = .ok (.if_icmp .le 6, 3) := by decide +kernel
theorem dX11_ends_20 : decode bX11_ends.2.1 20 = .ok (.ldc 194, 2) := by decide +kernel
theorem dX11_ends_22 : decode bX11_ends.2.1 22 = .ok (.ireturn, 1) := by decide +kernel
theorem dX11_ends_23 : decode bX11_ends.2.1 23 = .ok (.aload_n 0, 1) := by decide +kernel
theorem dX11_ends_24 : decode bX11_ends.2.1 24 = .ok (.getfield 67, 3) := by decide +kernel
theorem dX11_ends_27 : decode bX11_ends.2.1 27 = .ok (.iload_n 1, 1) := by decide +kernel
theorem dX11_ends_28 : decode bX11_ends.2.1 28 = .ok (.invokevirtual 198, 3) := by decide +kernel
theorem dX11_ends_31 : decode bX11_ends.2.1 31 = .ok (.iload_n 2, 1) := by decide +kernel
theorem dX11_ends_32 : decode bX11_ends.2.1 32 = .ok (.lookupswitch 44 #[(0, 28), (1, 36)], 28) := by decide +kernel
theorem dX11_ends_60 : decode bX11_ends.2.1 60 = .ok (.aload_n 0, 1) := by decide +kernel
theorem dX11_ends_61 : decode bX11_ends.2.1 61 = .ok (.getfield 67, 3) := by decide +kernel
theorem dX11_ends_64 : decode bX11_ends.2.1 64 = .ok (.getfield 206, 3) := by decide +kernel
theorem dX11_ends_67 : decode bX11_ends.2.1 67 = .ok (.ireturn, 1) := by decide +kernel
theorem dX11_ends_68 : decode bX11_ends.2.1 68 = .ok (.aload_n 0, 1) := by decide +kernel
theorem dX11_ends_69 : decode bX11_ends.2.1 69 = .ok (.getfield 67, 3) := by decide +kernel
theorem dX11_ends_72 : decode bX11_ends.2.1 72 = .ok (.getfield 209, 3) := by decide +kernel
theorem dX11_ends_75 : decode bX11_ends.2.1 75 = .ok (.ireturn, 1) := by decide +kernel
theorem dX11_ends_76 : decode bX11_ends.2.1 76 = .ok (.aload_n 0, 1) := by decide +kernel
theorem dX11_ends_77 : decode bX11_ends.2.1 77 = .ok (.getfield 67, 3) := by decide +kernel
theorem dX11_ends_80 : decode bX11_ends.2.1 80 = .ok (.getfield 212, 3) := by decide +kernel
theorem dX11_ends_83 : decode bX11_ends.2.1 83 = .ok (.ireturn, 1) := by decide +kernel
theorem dX11_night_0 : decode bX11_night.2.1 0 = .ok (.aload_n 0, 1) := by decide +kernel
theorem dX11_night_1 : decode bX11_night.2.1 1 = .ok (.getfield 42, 3) := by decide +kernel
theorem dX11_night_4 : decode bX11_night.2.1 4 = .ok (.getfield 135, 3) := by decide +kernel
theorem dX11_night_7 : decode bX11_night.2.1 7 = .ok (.ifCond .ne 5, 3) := by decide +kernel
theorem dX11_night_10 : decode bX11_night.2.1 10 = .ok (.iconst (-1), 1) := by decide +kernel
theorem dX11_night_11 : decode bX11_night.2.1 11 = .ok (.ireturn, 1) := by decide +kernel
theorem dX11_night_12 : decode bX11_night.2.1 12 = .ok (.aload_n 0, 1) := by decide +kernel
theorem dX11_night_13 : decode bX11_night.2.1 13 = .ok (.getfield 74, 3) := by decide +kernel
theorem dX11_night_16 : decode bX11_night.2.1 16 = .ok (.lload_n 1, 1) := by decide +kernel
theorem dX11_night_17 : decode bX11_night.2.1 17 = .ok (.aload_n 0, 1) := by decide +kernel
theorem dX11_night_18 : decode bX11_night.2.1 18 = .ok (.getfield 58, 3) := by decide +kernel
theorem dX11_night_21 : decode bX11_night.2.1 21 = .ok (.getfield 188, 3) := by decide +kernel
theorem dX11_night_24 : decode bX11_night.2.1 24 = .ok (.invokevirtual 215, 3) := by decide +kernel
theorem dX11_night_27 : decode bX11_night.2.1 27 = .ok (.aload_n 0, 1) := by decide +kernel
theorem dX11_night_28 : decode bX11_night.2.1 28 = .ok (.getfield 58, 3) := by decide +kernel
theorem dX11_night_31 : decode bX11_night.2.1 31 = .ok (.aload_n 0, 1) := by decide +kernel
theorem dX11_night_32 : decode bX11_night.2.1 32 = .ok (.getfield 74, 3) := by decide +kernel
theorem dX11_night_35 : decode bX11_night.2.1 35 = .ok (.invokevirtual 218, 3) := by decide +kernel
theorem dX11_night_38 : decode bX11_night.2.1 38 = .ok (.aload_n 0, 1) := by decide +kernel
theorem dX11_night_39 : decode bX11_night.2.1 39 = .ok (.getfield 74, 3) := by decide +kernel
theorem dX11_night_42 : decode bX11_night.2.1 42 = .ok (.getfield 222, 3) := by decide +kernel
theorem dX11_night_45 : decode bX11_night.2.1 45 = .ok (.ireturn, 1) := by decide +kernel
theorem dX11_latest_0 : decode bX11_latest.2.1 0 = .ok (.aload_n 0, 1) := by decide +kernel
theorem dX11_latest_1 : decode bX11_latest.2.1 1 = .ok (.getfield 58, 3) := by decide +kernel
theorem dX11_latest_4 : decode bX11_latest.2.1 4 = .ok (.getfield 223, 3) := by decide +kernel
theorem dX11_latest_7 : decode bX11_latest.2.1 7 = .ok (.ifCond .ne 5, 3) := by decide +kernel
theorem dX11_latest_10 : decode bX11_latest.2.1 10 = .ok (.iconst (-1), 1) := by decide +kernel
theorem dX11_latest_11 : decode bX11_latest.2.1 11 = .ok (.ireturn, 1) := by decide +kernel
theorem dX11_latest_12 : decode bX11_latest.2.1 12 = .ok (.iload_n 1, 1) := by decide +kernel
theorem dX11_latest_13 : decode bX11_latest.2.1 13 = .ok (.tableswitch 75 0 4 #[35, 43, 51, 59, 67], 35) := by decide +kernel
theorem dX11_latest_48 : decode bX11_latest.2.1 48 = .ok (.aload_n 0, 1) := by decide +kernel
theorem dX11_latest_49 : decode bX11_latest.2.1 49 = .ok (.getfield 74, 3) := by decide +kernel
theorem dX11_latest_52 : decode bX11_latest.2.1 52 = .ok (.getfield 226, 3) := by decide +kernel
theorem dX11_latest_55 : decode bX11_latest.2.1 55 = .ok (.ireturn, 1) := by decide +kernel
theorem dX11_latest_56 : decode bX11_latest.2.1 56 = .ok (.aload_n 0, 1) := by decide +kernel
theorem dX11_latest_57 : decode bX11_latest.2.1 57 = .ok (.getfield 74, 3) := by decide +kernel
theorem dX11_latest_60 : decode bX11_latest.2.1 60 = .ok (.getfield 227, 3) := by decide +kernel
theorem dX11_latest_63 : decode bX11_latest.2.1 63 = .ok (.ireturn, 1) := by decide +kernel
theorem dX11_latest_64 : decode bX11_latest.2.1 64 = .ok (.aload_n 0, 1) := by decide +kernel
theorem dX11_latest_65 : decode bX11_latest.2.1 65 = .ok (.getfield 74, 3) := by decide +kernel
theorem dX11_latest_68 : decode bX11_latest.2.1 68 = .ok (.getfield 230, 3) := by decide +kernel
theorem dX11_latest_71 : decode bX11_latest.2.1 71 = .ok (.ireturn, 1) := by decide +kernel
theorem dX11_latest_72 : decode bX11_latest.2.1 72 = .ok (.aload_n 0, 1) := by decide +kernel
theorem dX11_latest_73 : decode bX11_latest.2.1 73 = .ok (.getfield 74, 3) := by decide +kernel
theorem dX11_latest_76 : decode bX11_latest.2.1 76 = .ok (.invokevirtual 233, 3) := by decide +kernel
theorem dX11_latest_79 : decode bX11_latest.2.1 79 = .ok (.ireturn, 1) := by decide +kernel
theorem dX11_latest_80 : decode bX11_latest.2.1 80 = .ok (.aload_n 0, 1) := by decide +kernel
theorem dX11_latest_81 : decode bX11_latest.2.1 81 = .ok (.getfield 74, 3) := by decide +kernel
theorem dX11_latest_84 : decode bX11_latest.2.1 84 = .ok (.getfield 236, 3) := by decide +kernel
theorem dX11_latest_87 : decode bX11_latest.2.1 87 = .ok (.ireturn, 1) := by decide +kernel
theorem dX11_latest_88 : decode bX11_latest.2.1 88 = .ok (.iconst (-1), 1) := by decide +kernel
theorem dX11_latest_89 : decode bX11_latest.2.1 89 = .ok (.ireturn, 1) := by decide +kernel
theorem dX11_learn_0 : decode bX11_learn.2.1 0 = .ok (.aload_n 0, 1) := by decide +kernel
theorem dX11_learn_1 : decode bX11_learn.2.1 1 = .ok (.getfield 42, 3) := by decide +kernel
theorem dX11_learn_4 : decode bX11_learn.2.1 4 = .ok (.getfield 135, 3) := by decide +kernel
theorem dX11_learn_7 : decode bX11_learn.2.1 7 = .ok (.ifCond .eq 13, 3) := by decide +kernel
theorem dX11_learn_10 : decode bX11_learn.2.1 10 = .ok (.iload_n 1, 1) := by decide +kernel
theorem dX11_learn_11 : decode bX11_learn.2.1 11 = .ok (.ifCond .lt 9, 3) := by decide +kernel
theorem dX11_learn_14 : decode bX11_learn.2.1 14 = .ok (.iload_n 1, 1) := by decide +kernel
theorem dX11_learn_15 : decode bX11_learn.2.1 15 = .ok (.bipush 24, 2) := by decide +kernel
theorem dX11_learn_17 : decode bX11_learn.2.1 17 = .ok (.if_icmp .le 5, 3) := by decide +kernel
theorem dX11_learn_20 : decode bX11_learn.2.1 20 = .ok (.iconst (-1), 1) := by decide +kernel
theorem dX11_learn_21 : decode bX11_learn.2.1 21 = .ok (.ireturn, 1) := by decide +kernel
theorem dX11_learn_22 : decode bX11_learn.2.1 22 = .ok (.aload_n 0, 1) := by decide +kernel
theorem dX11_learn_23 : decode bX11_learn.2.1 23 = .ok (.getfield 58, 3) := by decide +kernel
theorem dX11_learn_26 : decode bX11_learn.2.1 26 = .ok (.iload_n 1, 1) := by decide +kernel
theorem dX11_learn_27 : decode bX11_learn.2.1 27 = .ok (.invokevirtual 239, 3) := by decide +kernel
theorem dX11_learn_30 : decode bX11_learn.2.1 30 = .ok (.aload_n 0, 1) := by decide +kernel
theorem dX11_learn_31 : decode bX11_learn.2.1 31 = .ok (.getfield 58, 3) := by decide +kernel
theorem dX11_learn_34 : decode bX11_learn.2.1 34 = .ok (.getfield 188, 3) := by decide +kernel
theorem dX11_learn_37 : decode bX11_learn.2.1 37 = .ok (.invokestatic 242, 3) := by decide +kernel
theorem dX11_learn_40 : decode bX11_learn.2.1 40 = .ok (.ireturn, 1) := by decide +kernel
theorem dX11_stops_0 : decode bX11_stops.2.1 0 = .ok (.aload_n 0, 1) := by decide +kernel
theorem dX11_stops_1 : decode bX11_stops.2.1 1 = .ok (.getfield 42, 3) := by decide +kernel
theorem dX11_stops_4 : decode bX11_stops.2.1 4 = .ok (.getfield 135, 3) := by decide +kernel
theorem dX11_stops_7 : decode bX11_stops.2.1 7 = .ok (.ifCond .ne 7, 3) := by decide +kernel
theorem dX11_stops_10 : decode bX11_stops.2.1 10 = .ok (.iconst (-1), 1) := by decide +kernel
theorem dX11_stops_11 : decode bX11_stops.2.1 11 = .ok (.goto 11, 3) := by decide +kernel
theorem dX11_stops_14 : decode bX11_stops.2.1 14 = .ok (.aload_n 0, 1) := by decide +kernel
theorem dX11_stops_15 : decode bX11_stops.2.1 15 = .ok (.getfield 51, 3) := by decide +kernel
theorem dX11_stops_18 : decode bX11_stops.2.1 18 = .ok (.iconst (-1), 1) := by decide +kernel
theorem dX11_stops_19 : decode bX11_stops.2.1 19 = .ok (.invokevirtual 254, 3) := by decide +kernel
theorem dX11_stops_22 : decode bX11_stops.2.1 22 = .ok (.ireturn, 1) := by decide +kernel
theorem dX11_rows_0 : decode bX11_rows.2.1 0 = .ok (.aload_n 0, 1) := by decide +kernel
theorem dX11_rows_1 : decode bX11_rows.2.1 1 = .ok (.getfield 42, 3) := by decide +kernel
theorem dX11_rows_4 : decode bX11_rows.2.1 4 = .ok (.getfield 135, 3) := by decide +kernel
theorem dX11_rows_7 : decode bX11_rows.2.1 7 = .ok (.ifCond .eq 13, 3) := by decide +kernel
theorem dX11_rows_10 : decode bX11_rows.2.1 10 = .ok (.iload_n 1, 1) := by decide +kernel
theorem dX11_rows_11 : decode bX11_rows.2.1 11 = .ok (.ifCond .lt 9, 3) := by decide +kernel
theorem dX11_rows_14 : decode bX11_rows.2.1 14 = .ok (.iload_n 1, 1) := by decide +kernel
theorem dX11_rows_15 : decode bX11_rows.2.1 15 = .ok (.bipush 6, 2) := by decide +kernel
theorem dX11_rows_17 : decode bX11_rows.2.1 17 = .ok (.if_icmp .le 7, 3) := by decide +kernel
theorem dX11_rows_20 : decode bX11_rows.2.1 20 = .ok (.iconst (-1), 1) := by decide +kernel
theorem dX11_rows_21 : decode bX11_rows.2.1 21 = .ok (.goto 11, 3) := by decide +kernel
theorem dX11_rows_24 : decode bX11_rows.2.1 24 = .ok (.aload_n 0, 1) := by decide +kernel
theorem dX11_rows_25 : decode bX11_rows.2.1 25 = .ok (.getfield 51, 3) := by decide +kernel
theorem dX11_rows_28 : decode bX11_rows.2.1 28 = .ok (.iload_n 1, 1) := by decide +kernel
theorem dX11_rows_29 : decode bX11_rows.2.1 29 = .ok (.invokevirtual 257, 3) := by decide +kernel
theorem dX11_rows_32 : decode bX11_rows.2.1 32 = .ok (.ireturn, 1) := by decide +kernel
theorem dX11_chance_0 : decode bX11_chance.2.1 0 = .ok (.aload_n 0, 1) := by decide +kernel
theorem dX11_chance_1 : decode bX11_chance.2.1 1 = .ok (.getfield 42, 3) := by decide +kernel
theorem dX11_chance_4 : decode bX11_chance.2.1 4 = .ok (.getfield 135, 3) := by decide +kernel
theorem dX11_chance_7 : decode bX11_chance.2.1 7 = .ok (.ifCond .eq 10, 3) := by decide +kernel
theorem dX11_chance_10 : decode bX11_chance.2.1 10 = .ok (.iload_n 1, 1) := by decide +kernel
theorem dX11_chance_11 : decode bX11_chance.2.1 11 = .ok (.invokestatic 260, 3) := by decide +kernel
theorem dX11_chance_14 : decode bX11_chance.2.1 14 = .ok (.ifCond .ne 5, 3) := by decide +kernel
theorem dX11_chance_17 : decode bX11_chance.2.1 17 = .ok (.iconst (-1), 1) := by decide +kernel
theorem dX11_chance_18 : decode bX11_chance.2.1 18 = .ok (.ireturn, 1) := by decide +kernel
theorem dX11_chance_19 : decode bX11_chance.2.1 19 = .ok (.aload_n 0, 1) := by decide +kernel
theorem dX11_chance_20 : decode bX11_chance.2.1 20 = .ok (.getfield 84, 3) := by decide +kernel
theorem dX11_chance_23 : decode bX11_chance.2.1 23 = .ok (.aload_n 0, 1) := by decide +kernel
theorem dX11_chance_24 : decode bX11_chance.2.1 24 = .ok (.getfield 58, 3) := by decide +kernel
theorem dX11_chance_27 : decode bX11_chance.2.1 27 = .ok (.getfield 188, 3) := by decide +kernel
theorem dX11_chance_30 : decode bX11_chance.2.1 30 = .ok (.iload_n 1, 1) := by decide +kernel
theorem dX11_chance_31 : decode bX11_chance.2.1 31 = .ok (.invokevirtual 263, 3) := by decide +kernel
theorem dX11_chance_34 : decode bX11_chance.2.1 34 = .ok (.ireturn, 1) := by decide +kernel
theorem dX11_isMostSaid_0 : decode bX11_isMostSaid.2.1 0 = .ok (.iload_n 0, 1) := by decide +kernel
theorem dX11_isMostSaid_1 : decode bX11_isMostSaid.2.1 1 = .ok (.iconst 1, 1) := by decide +kernel
theorem dX11_isMostSaid_2 : decode bX11_isMostSaid.2.1 2 = .ok (.if_icmp .lt 14, 3) := by decide +kernel
theorem dX11_isMostSaid_5 : decode bX11_isMostSaid.2.1 5 = .ok (.iload_n 0, 1) := by decide +kernel
theorem dX11_isMostSaid_6 : decode bX11_isMostSaid.2.1 6 = .ok (.sipush 200, 3) := by decide +kernel
theorem dX11_isMostSaid_9 : decode bX11_isMostSaid.2.1 9 = .ok (.if_icmp .gt 7, 3) := by decide +kernel
theorem dX11_isMostSaid_12 : decode bX11_isMostSaid.2.1 12 = .ok (.iconst 1, 1) := by decide +kernel
theorem dX11_isMostSaid_13 : decode bX11_isMostSaid.2.1 13 = .ok (.goto 4, 3) := by decide +kernel
theorem dX11_isMostSaid_16 : decode bX11_isMostSaid.2.1 16 = .ok (.iconst 0, 1) := by decide +kernel
theorem dX11_isMostSaid_17 : decode bX11_isMostSaid.2.1 17 = .ok (.ireturn, 1) := by decide +kernel
theorem dX11_mean_0 : decode bX11_mean.2.1 0 = .ok (.aload_n 0, 1) := by decide +kernel
theorem dX11_mean_1 : decode bX11_mean.2.1 1 = .ok (.getfield 42, 3) := by decide +kernel
theorem dX11_mean_4 : decode bX11_mean.2.1 4 = .ok (.iload_n 1, 1) := by decide +kernel
theorem dX11_mean_5 : decode bX11_mean.2.1 5 = .ok (.invokevirtual 136, 3) := by decide +kernel
theorem dX11_mean_8 : decode bX11_mean.2.1 8 = .ok (.ifCond .eq 10, 3) := by decide +kernel
theorem dX11_mean_11 : decode bX11_mean.2.1 11 = .ok (.iload_n 2, 1) := by decide +kernel
theorem dX11_mean_12 : decode bX11_mean.2.1 12 = .ok (.invokestatic 260, 3) := by decide +kernel
theorem dX11_mean_15 : decode bX11_mean.2.1 15 = .ok (.ifCond .ne 5, 3) := by decide +kernel
theorem dX11_mean_18 : decode bX11_mean.2.1 18 = .ok (.iconst (-1), 1) := by decide +kernel
theorem dX11_mean_19 : decode bX11_mean.2.1 19 = .ok (.ireturn, 1) := by decide +kernel
theorem dX11_mean_20 : decode bX11_mean.2.1 20 = .ok (.aload_n 0, 1) := by decide +kernel
theorem dX11_mean_21 : decode bX11_mean.2.1 21 = .ok (.getfield 84, 3) := by decide +kernel
theorem dX11_mean_24 : decode bX11_mean.2.1 24 = .ok (.aload_n 0, 1) := by decide +kernel
theorem dX11_mean_25 : decode bX11_mean.2.1 25 = .ok (.getfield 58, 3) := by decide +kernel
theorem dX11_mean_28 : decode bX11_mean.2.1 28 = .ok (.getfield 188, 3) := by decide +kernel
theorem dX11_mean_31 : decode bX11_mean.2.1 31 = .ok (.iload_n 2, 1) := by decide +kernel
theorem dX11_mean_32 : decode bX11_mean.2.1 32 = .ok (.invokevirtual 263, 3) := by decide +kernel
theorem dX11_mean_35 : decode bX11_mean.2.1 35 = .ok (.pop, 1) := by decide +kernel
theorem dX11_mean_36 : decode bX11_mean.2.1 36 = .ok (.aload_n 0, 1) := by decide +kernel
theorem dX11_mean_37 : decode bX11_mean.2.1 37 = .ok (.getfield 84, 3) := by decide +kernel
theorem dX11_mean_40 : decode bX11_mean.2.1 40 = .ok (.getfield 267, 3) := by decide +kernel
theorem dX11_mean_43 : decode bX11_mean.2.1 43 = .ok (.iload_n 1, 1) := by decide +kernel
theorem dX11_mean_44 : decode bX11_mean.2.1 44 = .ok (.laload, 1) := by decide +kernel
theorem dX11_mean_45 : decode bX11_mean.2.1 45 = .ok (.l2i, 1) := by decide +kernel
theorem dX11_mean_46 : decode bX11_mean.2.1 46 = .ok (.ireturn, 1) := by decide +kernel
theorem dX11_understudy_0 : decode bX11_understudy.2.1 0 = .ok (.aload_n 0, 1) := by decide +kernel
theorem dX11_understudy_1 : decode bX11_understudy.2.1 1 = .ok (.getfield 42, 3) := by decide +kernel
theorem dX11_understudy_4 : decode bX11_understudy.2.1 4 = .ok (.getfield 135, 3) := by decide +kernel
theorem dX11_understudy_7 : decode bX11_understudy.2.1 7 = .ok (.ifCond .eq 19, 3) := by decide +kernel
theorem dX11_understudy_10 : decode bX11_understudy.2.1 10 = .ok (.iload_n 1, 1) := by decide +kernel
theorem dX11_understudy_11 : decode bX11_understudy.2.1 11 = .ok (.invokestatic 260, 3) := by decide +kernel
theorem dX11_understudy_14 : decode bX11_understudy.2.1 14 = .ok (.ifCond .eq 12, 3) := by decide +kernel
theorem dX11_understudy_17 : decode bX11_understudy.2.1 17 = .ok (.iload_n 2, 1) := by decide +kernel
theorem dX11_understudy_18 : decode bX11_understudy.2.1 18 = .ok (.ifCond .lt 8, 3) := by decide +kernel
theorem dX11_understudy_21 : decode bX11_understudy.2.1 21 = .ok (.iload_n 2, 1) := by decide +kernel
theorem dX11_understudy_22 : decode bX11_understudy.2.1 22 = .ok (.iconst 1, 1) := by decide +kernel
theorem dX11_understudy_23 : decode bX11_understudy.2.1 23 = .ok (.if_icmp .le 5, 3) := by decide +kernel
theorem dX11_understudy_26 : decode bX11_understudy.2.1 26 = .ok (.iconst (-1), 1) := by decide +kernel
theorem dX11_understudy_27 : decode bX11_understudy.2.1 27 = .ok (.ireturn, 1) := by decide +kernel
theorem dX11_understudy_28 : decode bX11_understudy.2.1 28 = .ok (.iconst (-1), 1) := by decide +kernel
theorem dX11_understudy_29 : decode bX11_understudy.2.1 29 = .ok (.istore_n 3, 1) := by decide +kernel
theorem dX11_understudy_30 : decode bX11_understudy.2.1 30 = .ok (.iconst (-1), 1) := by decide +kernel
theorem dX11_understudy_31 : decode bX11_understudy.2.1 31 = .ok (.istore 4, 2) := by decide +kernel
theorem dX11_understudy_33 : decode bX11_understudy.2.1 33 = .ok (.iconst 0, 1) := by decide +kernel
theorem dX11_understudy_34 : decode bX11_understudy.2.1 34 = .ok (.istore 5, 2) := by decide +kernel
theorem dX11_understudy_36 : decode bX11_understudy.2.1 36 = .ok (.iload 5, 2) := by decide +kernel
theorem dX11_understudy_38 : decode bX11_understudy.2.1 38 = .ok (.bipush 8, 2) := by decide +kernel
theorem dX11_understudy_40 : decode bX11_understudy.2.1 40 = .ok (.if_icmp .ge 58, 3) := by decide +kernel
theorem dX11_understudy_43 : decode bX11_understudy.2.1 43 = .ok (.aload_n 0, 1) := by decide +kernel
theorem dX11_understudy_44 : decode bX11_understudy.2.1 44 = .ok (.getfield 42, 3) := by decide +kernel
theorem dX11_understudy_47 : decode bX11_understudy.2.1 47 = .ok (.iload 5, 2) := by decide +kernel
theorem dX11_understudy_49 : decode bX11_understudy.2.1 49 = .ok (.invokevirtual 282, 3) := by decide +kernel
theorem dX11_understudy_52 : decode bX11_understudy.2.1 52 = .ok (.ifCond .eq 23, 3) := by decide +kernel
theorem dX11_understudy_55 : decode bX11_understudy.2.1 55 = .ok (.aload_n 0, 1) := by decide +kernel
theorem dX11_understudy_56 : decode bX11_understudy.2.1 56 = .ok (.getfield 84, 3) := by decide +kernel
theorem dX11_understudy_59 : decode bX11_understudy.2.1 59 = .ok (.iload 5, 2) := by decide +kernel
theorem dX11_understudy_61 : decode bX11_understudy.2.1 61 = .ok (.aload_n 0, 1) := by decide +kernel
theorem dX11_understudy_62 : decode bX11_understudy.2.1 62 = .ok (.getfield 58, 3) := by decide +kernel
theorem dX11_understudy_65 : decode bX11_understudy.2.1 65 = .ok (.getfield 188, 3) := by decide +kernel
theorem dX11_understudy_68 : decode bX11_understudy.2.1 68 = .ok (.iload_n 1, 1) := by decide +kernel
theorem dX11_understudy_69 : decode bX11_understudy.2.1 69 = .ok (.invokevirtual 285, 3) := by decide +kernel
theorem dX11_understudy_72 : decode bX11_understudy.2.1 72 = .ok (.goto 4, 3) := by decide +kernel
theorem dX11_understudy_75 : decode bX11_understudy.2.1 75 = .ok (.iconst (-1), 1) := by decide +kernel
theorem dX11_understudy_76 : decode bX11_understudy.2.1 76 = .ok (.istore 6, 2) := by decide +kernel
theorem dX11_understudy_78 : decode bX11_understudy.2.1 78 = .ok (.iload 6, 2) := by decide +kernel
theorem dX11_understudy_80 : decode bX11_understudy.2.1 80 = .ok (.iload 4, 2) := by decide +kernel
theorem dX11_understudy_82 : decode bX11_understudy.2.1 82 = .ok (.if_icmp .le 10, 3) := by decide +kernel
theorem dX11_understudy_85 : decode bX11_understudy.2.1 85 = .ok (.iload 5, 2) := by decide +kernel
theorem dX11_understudy_87 : decode bX11_understudy.2.1 87 = .ok (.istore_n 3, 1) := by decide +kernel
theorem dX11_understudy_88 : decode bX11_understudy.2.1 88 = .ok (.iload 6, 2) := by decide +kernel
theorem dX11_understudy_90 : decode bX11_understudy.2.1 90 = .ok (.istore 4, 2) := by decide +kernel
theorem dX11_understudy_92 : decode bX11_understudy.2.1 92 = .ok (.iinc 5 1, 3) := by decide +kernel
theorem dX11_understudy_95 : decode bX11_understudy.2.1 95 = .ok (.goto (-59), 3) := by decide +kernel
theorem dX11_understudy_98 : decode bX11_understudy.2.1 98 = .ok (.iload_n 2, 1) := by decide +kernel
theorem dX11_understudy_99 : decode bX11_understudy.2.1 99 = .ok (.ifCond .ne 7, 3) := by decide +kernel
theorem dX11_understudy_102 : decode bX11_understudy.2.1 102 = .ok (.iload_n 3, 1) := by decide +kernel
theorem dX11_understudy_103 : decode bX11_understudy.2.1 103 = .ok (.goto 5, 3) := by decide +kernel
theorem dX11_understudy_106 : decode bX11_understudy.2.1 106 = .ok (.iload 4, 2) := by decide +kernel
theorem dX11_understudy_108 : decode bX11_understudy.2.1 108 = .ok (.ireturn, 1) := by decide +kernel
theorem dX11_players_0 : decode bX11_players.2.1 0 = .ok (.aload_n 0, 1) := by decide +kernel
theorem dX11_players_1 : decode bX11_players.2.1 1 = .ok (.getfield 42, 3) := by decide +kernel
theorem dX11_players_4 : decode bX11_players.2.1 4 = .ok (.getfield 135, 3) := by decide +kernel
theorem dX11_players_7 : decode bX11_players.2.1 7 = .ok (.ifCond .eq 14, 3) := by decide +kernel
theorem dX11_players_10 : decode bX11_players.2.1 10 = .ok (.iload_n 1, 1) := by decide +kernel
theorem dX11_players_11 : decode bX11_players.2.1 11 = .ok (.iconst 1, 1) := by decide +kernel
theorem dX11_players_12 : decode bX11_players.2.1 12 = .ok (.if_icmp .lt 9, 3) := by decide +kernel
theorem dX11_players_15 : decode bX11_players.2.1 15 = .ok (.iload_n 1, 1) := by decide +kernel
theorem dX11_players_16 : decode bX11_players.2.1 16 = .ok (.bipush 24, 2) := by decide +kernel
theorem dX11_players_18 : decode bX11_players.2.1 18 = .ok (.if_icmp .le 5, 3) := by decide +kernel
theorem dX11_players_21 : decode bX11_players.2.1 21 = .ok (.iconst (-1), 1) := by decide +kernel
theorem dX11_players_22 : decode bX11_players.2.1 22 = .ok (.ireturn, 1) := by decide +kernel
theorem dX11_players_23 : decode bX11_players.2.1 23 = .ok (.aload_n 0, 1) := by decide +kernel
theorem dX11_players_24 : decode bX11_players.2.1 24 = .ok (.getfield 42, 3) := by decide +kernel
theorem dX11_players_27 : decode bX11_players.2.1 27 = .ok (.iload_n 1, 1) := by decide +kernel
theorem dX11_players_28 : decode bX11_players.2.1 28 = .ok (.invokevirtual 299, 3) := by decide +kernel
theorem dX11_players_31 : decode bX11_players.2.1 31 = .ok (.iload_n 2, 1) := by decide +kernel
theorem dX11_players_32 : decode bX11_players.2.1 32 = .ok (.iconst (-1), 1) := by decide +kernel
theorem dX11_players_33 : decode bX11_players.2.1 33 = .ok (.if_icmp .ne 11, 3) := by decide +kernel
theorem dX11_players_36 : decode bX11_players.2.1 36 = .ok (.aload_n 0, 1) := by decide +kernel
theorem dX11_players_37 : decode bX11_players.2.1 37 = .ok (.getfield 42, 3) := by decide +kernel
theorem dX11_players_40 : decode bX11_players.2.1 40 = .ok (.invokevirtual 302, 3) := by decide +kernel
theorem dX11_players_43 : decode bX11_players.2.1 43 = .ok (.ireturn, 1) := by decide +kernel
theorem dX11_players_44 : decode bX11_players.2.1 44 = .ok (.iload_n 2, 1) := by decide +kernel
theorem dX11_players_45 : decode bX11_players.2.1 45 = .ok (.invokestatic 179, 3) := by decide +kernel
theorem dX11_players_48 : decode bX11_players.2.1 48 = .ok (.ifCond .eq 26, 3) := by decide +kernel
theorem dX11_players_51 : decode bX11_players.2.1 51 = .ok (.aload_n 0, 1) := by decide +kernel
theorem dX11_players_52 : decode bX11_players.2.1 52 = .ok (.getfield 42, 3) := by decide +kernel
theorem dX11_players_55 : decode bX11_players.2.1 55 = .ok (.iload_n 2, 1) := by decide +kernel
theorem dX11_players_56 : decode bX11_players.2.1 56 = .ok (.invokevirtual 282, 3) := by decide +kernel
theorem dX11_players_59 : decode bX11_players.2.1 59 = .ok (.ifCond .eq 15, 3) := by decide +kernel
theorem dX11_players_62 : decode bX11_players.2.1 62 = .ok (.aload_n 0, 1) := by decide +kernel
theorem dX11_players_63 : decode bX11_players.2.1 63 = .ok (.getfield 42, 3) := by decide +kernel
theorem dX11_players_66 : decode bX11_players.2.1 66 = .ok (.getfield 305, 3) := by decide +kernel
theorem dX11_players_69 : decode bX11_players.2.1 69 = .ok (.iload_n 2, 1) := by decide +kernel
theorem dX11_players_70 : decode bX11_players.2.1 70 = .ok (.iaload, 1) := by decide +kernel
theorem dX11_players_71 : decode bX11_players.2.1 71 = .ok (.goto 4, 3) := by decide +kernel
theorem dX11_players_74 : decode bX11_players.2.1 74 = .ok (.iconst (-1), 1) := by decide +kernel
theorem dX11_players_75 : decode bX11_players.2.1 75 = .ok (.ireturn, 1) := by decide +kernel
theorem dX11_shortest_0 : decode bX11_shortest.2.1 0 = .ok (.aload_n 0, 1) := by decide +kernel
theorem dX11_shortest_1 : decode bX11_shortest.2.1 1 = .ok (.iload_n 1, 1) := by decide +kernel
theorem dX11_shortest_2 : decode bX11_shortest.2.1 2 = .ok (.iload_n 2, 1) := by decide +kernel
theorem dX11_shortest_3 : decode bX11_shortest.2.1 3 = .ok (.iconst 0, 1) := by decide +kernel
theorem dX11_shortest_4 : decode bX11_shortest.2.1 4 = .ok (.invokevirtual 308, 3) := by decide +kernel
theorem dX11_shortest_7 : decode bX11_shortest.2.1 7 = .ok (.ireturn, 1) := by decide +kernel
theorem dX11_longest_0 : decode bX11_longest.2.1 0 = .ok (.aload_n 0, 1) := by decide +kernel
theorem dX11_longest_1 : decode bX11_longest.2.1 1 = .ok (.iload_n 1, 1) := by decide +kernel
theorem dX11_longest_2 : decode bX11_longest.2.1 2 = .ok (.iload_n 2, 1) := by decide +kernel
theorem dX11_longest_3 : decode bX11_longest.2.1 3 = .ok (.iconst 1, 1) := by decide +kernel
theorem dX11_longest_4 : decode bX11_longest.2.1 4 = .ok (.invokevirtual 308, 3) := by decide +kernel
theorem dX11_longest_7 : decode bX11_longest.2.1 7 = .ok (.ireturn, 1) := by decide +kernel
theorem dX11_extreme_0 : decode bX11_extreme.2.1 0 = .ok (.aload_n 0, 1) := by decide +kernel
theorem dX11_extreme_1 : decode bX11_extreme.2.1 1 = .ok (.getfield 42, 3) := by decide +kernel
theorem dX11_extreme_4 : decode bX11_extreme.2.1 4 = .ok (.getfield 135, 3) := by decide +kernel
theorem dX11_extreme_7 : decode bX11_extreme.2.1 7 = .ok (.ifCond .eq 21, 3) := by decide +kernel
theorem dX11_extreme_10 : decode bX11_extreme.2.1 10 = .ok (.iload_n 1, 1) := by decide +kernel
theorem dX11_extreme_11 : decode bX11_extreme.2.1 11 = .ok (.ifCond .lt 17, 3) := by decide +kernel
theorem dX11_extreme_14 : decode bX11_extreme.2.1 14 = .ok (.iload_n 1, 1) := by decide +kernel
theorem dX11_extreme_15 : decode bX11_extreme.2.1 15 = .ok (.iconst 4, 1) := by decide +kernel
theorem dX11_extreme_16 : decode bX11_extreme.2.1 16 = .ok (.if_icmp .gt 12, 3) := by decide +kernel
theorem dX11_extreme_19 : decode bX11_extreme.2.1 19 = .ok (.iload_n 2, 1) := by decide +kernel
theorem dX11_extreme_20 : decode bX11_extreme.2.1 20 = .ok (.ifCond .lt 8, 3) := by decide +kernel
theorem dX11_extreme_23 : decode bX11_extreme.2.1 23 = .ok (.iload_n 2, 1) := by decide +kernel
theorem dX11_extreme_24 : decode bX11_extreme.2.1 24 = .ok (.iconst 1, 1) := by decide +kernel
theorem dX11_extreme_25 : decode bX11_extreme.2.1 25 = .ok (.if_icmp .le 5, 3) := by decide +kernel
theorem dX11_extreme_28 : decode bX11_extreme.2.1 28 = .ok (.iconst (-1), 1) := by decide +kernel
theorem dX11_extreme_29 : decode bX11_extreme.2.1 29 = .ok (.ireturn, 1) := by decide +kernel
theorem dX11_extreme_30 : decode bX11_extreme.2.1 30 = .ok (.aload_n 0, 1) := by decide +kernel
theorem dX11_extreme_31 : decode bX11_extreme.2.1 31 = .ok (.getfield 67, 3) := by decide +kernel
theorem dX11_extreme_34 : decode bX11_extreme.2.1 34 = .ok (.iload_n 1, 1) := by decide +kernel
theorem dX11_extreme_35 : decode bX11_extreme.2.1 35 = .ok (.iload_n 3, 1) := by decide +kernel
theorem dX11_extreme_36 : decode bX11_extreme.2.1 36 = .ok (.invokevirtual 312, 3) := by decide +kernel
theorem dX11_extreme_39 : decode bX11_extreme.2.1 39 = .ok (.iload_n 2, 1) := by decide +kernel
theorem dX11_extreme_40 : decode bX11_extreme.2.1 40 = .ok (.ifCond .ne 13, 3) := by decide +kernel
theorem dX11_extreme_43 : decode bX11_extreme.2.1 43 = .ok (.aload_n 0, 1) := by decide +kernel
theorem dX11_extreme_44 : decode bX11_extreme.2.1 44 = .ok (.getfield 67, 3) := by decide +kernel
theorem dX11_extreme_47 : decode bX11_extreme.2.1 47 = .ok (.getfield 316, 3) := by decide +kernel
theorem dX11_extreme_50 : decode bX11_extreme.2.1 50 = .ok (.goto 10, 3) := by decide +kernel
theorem dX11_extreme_53 : decode bX11_extreme.2.1 53 = .ok (.aload_n 0, 1) := by decide +kernel
theorem dX11_extreme_54 : decode bX11_extreme.2.1 54 = .ok (.getfield 67, 3) := by decide +kernel
theorem dX11_extreme_57 : decode bX11_extreme.2.1 57 = .ok (.getfield 319, 3) := by decide +kernel
theorem dX11_extreme_60 : decode bX11_extreme.2.1 60 = .ok (.ireturn, 1) := by decide +kernel
theorem dX11_trial_0 : decode bX11_trial.2.1 0 = .ok (.aload_n 0, 1) := by decide +kernel
theorem dX11_trial_1 : decode bX11_trial.2.1 1 = .ok (.getfield 42, 3) := by decide +kernel
theorem dX11_trial_4 : decode bX11_trial.2.1 4 = .ok (.getfield 135, 3) := by decide +kernel
theorem dX11_trial_7 : decode bX11_trial.2.1 7 = .ok (.ifCond .eq 23, 3) := by decide +kernel
theorem dX11_trial_10 : decode bX11_trial.2.1 10 = .ok (.iload_n 1, 1) := by decide +kernel
theorem dX11_trial_11 : decode bX11_trial.2.1 11 = .ok (.iconst 1, 1) := by decide +kernel
theorem dX11_trial_12 : decode bX11_trial.2.1 12 = .ok (.if_icmp .lt 18, 3) := by decide +kernel
theorem dX11_trial_15 : decode bX11_trial.2.1 15 = .ok (.iload_n 1, 1) := by decide +kernel
theorem dX11_trial_16 : decode bX11_trial.2.1 16 = .ok (.bipush 50, 2) := by decide +kernel
theorem dX11_trial_18 : decode bX11_trial.2.1 18 = .ok (.if_icmp .gt 12, 3) := by decide +kernel
theorem dX11_trial_21 : decode bX11_trial.2.1 21 = .ok (.iload_n 2, 1) := by decide +kernel
theorem dX11_trial_22 : decode bX11_trial.2.1 22 = .ok (.ifCond .lt 8, 3) := by decide +kernel
theorem dX11_trial_25 : decode bX11_trial.2.1 25 = .ok (.iload_n 2, 1) := by decide +kernel
theorem dX11_trial_26 : decode bX11_trial.2.1 26 = .ok (.iconst 2, 1) := by decide +kernel
theorem dX11_trial_27 : decode bX11_trial.2.1 27 = .ok (.if_icmp .le 5, 3) := by decide +kernel
theorem dX11_trial_30 : decode bX11_trial.2.1 30 = .ok (.iconst (-1), 1) := by decide +kernel
theorem dX11_trial_31 : decode bX11_trial.2.1 31 = .ok (.ireturn, 1) := by decide +kernel
theorem dX11_trial_32 : decode bX11_trial.2.1 32 = .ok (.iconst 0, 1) := by decide +kernel
theorem dX11_trial_33 : decode bX11_trial.2.1 33 = .ok (.istore_n 3, 1) := by decide +kernel
theorem dX11_trial_34 : decode bX11_trial.2.1 34 = .ok (.iconst 0, 1) := by decide +kernel
theorem dX11_trial_35 : decode bX11_trial.2.1 35 = .ok (.istore 4, 2) := by decide +kernel
theorem dX11_trial_37 : decode bX11_trial.2.1 37 = .ok (.iload 4, 2) := by decide +kernel
theorem dX11_trial_39 : decode bX11_trial.2.1 39 = .ok (.iload_n 1, 1) := by decide +kernel
theorem dX11_trial_40 : decode bX11_trial.2.1 40 = .ok (.if_icmp .ge 98, 3) := by decide +kernel
theorem dX11_trial_43 : decode bX11_trial.2.1 43 = .ok (.aload_n 0, 1) := by decide +kernel
theorem dX11_trial_44 : decode bX11_trial.2.1 44 = .ok (.getfield 78, 3) := by decide +kernel
theorem dX11_trial_47 : decode bX11_trial.2.1 47 = .ok (.iload 4, 2) := by decide +kernel
theorem dX11_trial_49 : decode bX11_trial.2.1 49 = .ok (.i2l, 1) := by decide +kernel
theorem dX11_trial_50 : decode bX11_trial.2.1 50 = .ok (.aload_n 0, 1) := by decide +kernel
theorem dX11_trial_51 : decode bX11_trial.2.1 51 = .ok (.getfield 58, 3) := by decide +kernel
theorem dX11_trial_54 : decode bX11_trial.2.1 54 = .ok (.getfield 188, 3) := by decide +kernel
theorem dX11_trial_57 : decode bX11_trial.2.1 57 = .ok (.invokevirtual 215, 3) := by decide +kernel
theorem dX11_trial_60 : decode bX11_trial.2.1 60 = .ok (.iload_n 2, 1) := by decide +kernel
theorem dX11_trial_61 : decode bX11_trial.2.1 61 = .ok (.lookupswitch 61 #[(0, 27), (1, 48)], 27) := by decide +kernel
theorem dX11_trial_88 : decode bX11_trial.2.1 88 = .ok (.iload_n 3, 1) := by decide +kernel
theorem dX11_trial_89 : decode bX11_trial.2.1 89 = .ok (.aload_n 0, 1) := by decide +kernel
theorem dX11_trial_90 : decode bX11_trial.2.1 90 = .ok (.getfield 78, 3) := by decide +kernel
theorem dX11_trial_93 : decode bX11_trial.2.1 93 = .ok (.getfield 222, 3) := by decide +kernel
theorem dX11_trial_96 : decode bX11_trial.2.1 96 = .ok (.ifCond .ne 7, 3) := by decide +kernel
theorem dX11_trial_99 : decode bX11_trial.2.1 99 = .ok (.iconst 1, 1) := by decide +kernel
theorem dX11_trial_100 : decode bX11_trial.2.1 100 = .ok (.goto 4, 3) := by decide +kernel
theorem dX11_trial_103 : decode bX11_trial.2.1 103 = .ok (.iconst 0, 1) := by decide +kernel
theorem dX11_trial_104 : decode bX11_trial.2.1 104 = .ok (.iadd, 1) := by decide +kernel
theorem dX11_trial_105 : decode bX11_trial.2.1 105 = .ok (.istore_n 3, 1) := by decide +kernel
theorem dX11_trial_106 : decode bX11_trial.2.1 106 = .ok (.goto 26, 3) := by decide +kernel
theorem dX11_trial_109 : decode bX11_trial.2.1 109 = .ok (.iload_n 3, 1) := by decide +kernel
theorem dX11_trial_110 : decode bX11_trial.2.1 110 = .ok (.aload_n 0, 1) := by decide +kernel
theorem dX11_trial_111 : decode bX11_trial.2.1 111 = .ok (.getfield 78, 3) := by decide +kernel
theorem dX11_trial_114 : decode bX11_trial.2.1 114 = .ok (.invokevirtual 233, 3) := by decide +kernel
theorem dX11_trial_117 : decode bX11_trial.2.1 117 = .ok (.iadd, 1) := by decide +kernel
theorem dX11_trial_118 : decode bX11_trial.2.1 118 = .ok (.istore_n 3, 1) := by decide +kernel
theorem dX11_trial_119 : decode bX11_trial.2.1 119 = .ok (.goto 13, 3) := by decide +kernel
theorem dX11_trial_122 : decode bX11_trial.2.1 122 = .ok (.iload_n 3, 1) := by decide +kernel
theorem dX11_trial_123 : decode bX11_trial.2.1 123 = .ok (.aload_n 0, 1) := by decide +kernel
theorem dX11_trial_124 : decode bX11_trial.2.1 124 = .ok (.getfield 78, 3) := by decide +kernel
theorem dX11_trial_127 : decode bX11_trial.2.1 127 = .ok (.getfield 227, 3) := by decide +kernel
theorem dX11_trial_130 : decode bX11_trial.2.1 130 = .ok (.iadd, 1) := by decide +kernel
theorem dX11_trial_131 : decode bX11_trial.2.1 131 = .ok (.istore_n 3, 1) := by decide +kernel
theorem dX11_trial_132 : decode bX11_trial.2.1 132 = .ok (.iinc 4 1, 3) := by decide +kernel
theorem dX11_trial_135 : decode bX11_trial.2.1 135 = .ok (.goto (-98), 3) := by decide +kernel
theorem dX11_trial_138 : decode bX11_trial.2.1 138 = .ok (.iload_n 3, 1) := by decide +kernel
theorem dX11_trial_139 : decode bX11_trial.2.1 139 = .ok (.ireturn, 1) := by decide +kernel
theorem dX11_reword_0 : decode bX11_reword.2.1 0 = .ok (.aload_n 0, 1) := by decide +kernel
theorem dX11_reword_1 : decode bX11_reword.2.1 1 = .ok (.getfield 42, 3) := by decide +kernel
theorem dX11_reword_4 : decode bX11_reword.2.1 4 = .ok (.getfield 135, 3) := by decide +kernel
theorem dX11_reword_7 : decode bX11_reword.2.1 7 = .ok (.ifCond .eq 12, 3) := by decide +kernel
theorem dX11_reword_10 : decode bX11_reword.2.1 10 = .ok (.iload_n 1, 1) := by decide +kernel
theorem dX11_reword_11 : decode bX11_reword.2.1 11 = .ok (.ifCond .lt 8, 3) := by decide +kernel
theorem dX11_reword_14 : decode bX11_reword.2.1 14 = .ok (.iload_n 1, 1) := by decide +kernel
theorem dX11_reword_15 : decode bX11_reword.2.1 15 = .ok (.iconst 1, 1) := by decide +kernel
theorem dX11_reword_16 : decode bX11_reword.2.1 16 = .ok (.if_icmp .le 6, 3) := by decide +kernel
theorem dX11_reword_19 : decode bX11_reword.2.1 19 = .ok (.ldc 194, 2) := by decide +kernel
theorem dX11_reword_21 : decode bX11_reword.2.1 21 = .ok (.ireturn, 1) := by decide +kernel
theorem dX11_reword_22 : decode bX11_reword.2.1 22 = .ok (.iload_n 1, 1) := by decide +kernel
theorem dX11_reword_23 : decode bX11_reword.2.1 23 = .ok (.ifCond .ne 13, 3) := by decide +kernel
theorem dX11_reword_26 : decode bX11_reword.2.1 26 = .ok (.aload_n 0, 1) := by decide +kernel
theorem dX11_reword_27 : decode bX11_reword.2.1 27 = .ok (.getfield 42, 3) := by decide +kernel
theorem dX11_reword_30 : decode bX11_reword.2.1 30 = .ok (.invokevirtual 330, 3) := by decide +kernel
theorem dX11_reword_33 : decode bX11_reword.2.1 33 = .ok (.goto 10, 3) := by decide +kernel
theorem dX11_reword_36 : decode bX11_reword.2.1 36 = .ok (.aload_n 0, 1) := by decide +kernel
theorem dX11_reword_37 : decode bX11_reword.2.1 37 = .ok (.getfield 42, 3) := by decide +kernel
theorem dX11_reword_40 : decode bX11_reword.2.1 40 = .ok (.invokevirtual 333, 3) := by decide +kernel
theorem dX11_reword_43 : decode bX11_reword.2.1 43 = .ok (.ireturn, 1) := by decide +kernel
theorem dX11_image_0 : decode bX11_image.2.1 0 = .ok (.aload_n 0, 1) := by decide +kernel
theorem dX11_image_1 : decode bX11_image.2.1 1 = .ok (.getfield 42, 3) := by decide +kernel
theorem dX11_image_4 : decode bX11_image.2.1 4 = .ok (.getfield 135, 3) := by decide +kernel
theorem dX11_image_7 : decode bX11_image.2.1 7 = .ok (.ifCond .ne 5, 3) := by decide +kernel
theorem dX11_image_10 : decode bX11_image.2.1 10 = .ok (.iconst (-1), 1) := by decide +kernel
theorem dX11_image_11 : decode bX11_image.2.1 11 = .ok (.ireturn, 1) := by decide +kernel
theorem dX11_image_12 : decode bX11_image.2.1 12 = .ok (.aload_n 0, 1) := by decide +kernel
theorem dX11_image_13 : decode bX11_image.2.1 13 = .ok (.getfield 58, 3) := by decide +kernel
theorem dX11_image_16 : decode bX11_image.2.1 16 = .ok (.invokevirtual 336, 3) := by decide +kernel
theorem dX11_image_19 : decode bX11_image.2.1 19 = .ok (.aload_n 0, 1) := by decide +kernel
theorem dX11_image_20 : decode bX11_image.2.1 20 = .ok (.getfield 58, 3) := by decide +kernel
theorem dX11_image_23 : decode bX11_image.2.1 23 = .ok (.getfield 188, 3) := by decide +kernel
theorem dX11_image_26 : decode bX11_image.2.1 26 = .ok (.invokestatic 242, 3) := by decide +kernel
theorem dX11_image_29 : decode bX11_image.2.1 29 = .ok (.ireturn, 1) := by decide +kernel
theorem dX11_back_0 : decode bX11_back.2.1 0 = .ok (.aload_n 0, 1) := by decide +kernel
theorem dX11_back_1 : decode bX11_back.2.1 1 = .ok (.getfield 58, 3) := by decide +kernel
theorem dX11_back_4 : decode bX11_back.2.1 4 = .ok (.getfield 339, 3) := by decide +kernel
theorem dX11_back_7 : decode bX11_back.2.1 7 = .ok (.ifCond .ne 5, 3) := by decide +kernel
theorem dX11_back_10 : decode bX11_back.2.1 10 = .ok (.iconst (-1), 1) := by decide +kernel
theorem dX11_back_11 : decode bX11_back.2.1 11 = .ok (.ireturn, 1) := by decide +kernel
theorem dX11_back_12 : decode bX11_back.2.1 12 = .ok (.aload_n 0, 1) := by decide +kernel
theorem dX11_back_13 : decode bX11_back.2.1 13 = .ok (.getfield 58, 3) := by decide +kernel
theorem dX11_back_16 : decode bX11_back.2.1 16 = .ok (.invokevirtual 343, 3) := by decide +kernel
theorem dX11_back_19 : decode bX11_back.2.1 19 = .ok (.aload_n 0, 1) := by decide +kernel
theorem dX11_back_20 : decode bX11_back.2.1 20 = .ok (.getfield 58, 3) := by decide +kernel
theorem dX11_back_23 : decode bX11_back.2.1 23 = .ok (.getfield 188, 3) := by decide +kernel
theorem dX11_back_26 : decode bX11_back.2.1 26 = .ok (.invokestatic 242, 3) := by decide +kernel
theorem dX11_back_29 : decode bX11_back.2.1 29 = .ok (.ireturn, 1) := by decide +kernel
theorem dX11_count_0 : decode bX11_count.2.1 0 = .ok (.iload_n 1, 1) := by decide +kernel
theorem dX11_count_1 : decode bX11_count.2.1 1 = .ok (.tableswitch 111 0 7 #[47, 55, 63, 68, 76, 81, 89, 100], 47) := by decide +kernel
theorem dX11_count_48 : decode bX11_count.2.1 48 = .ok (.aload_n 0, 1) := by decide +kernel
theorem dX11_count_49 : decode bX11_count.2.1 49 = .ok (.getfield 42, 3) := by decide +kernel
theorem dX11_count_52 : decode bX11_count.2.1 52 = .ok (.getfield 346, 3) := by decide +kernel
theorem dX11_count_55 : decode bX11_count.2.1 55 = .ok (.ireturn, 1) := by decide +kernel
theorem dX11_count_56 : decode bX11_count.2.1 56 = .ok (.aload_n 0, 1) := by decide +kernel
theorem dX11_count_57 : decode bX11_count.2.1 57 = .ok (.getfield 42, 3) := by decide +kernel
theorem dX11_count_60 : decode bX11_count.2.1 60 = .ok (.getfield 135, 3) := by decide +kernel
theorem dX11_count_63 : decode bX11_count.2.1 63 = .ok (.ireturn, 1) := by decide +kernel
theorem dX11_count_64 : decode bX11_count.2.1 64 = .ok (.aload_n 0, 1) := by decide +kernel
theorem dX11_count_65 : decode bX11_count.2.1 65 = .ok (.getfield 111, 3) := by decide +kernel
theorem dX11_count_68 : decode bX11_count.2.1 68 = .ok (.ireturn, 1) := by decide +kernel
theorem dX11_count_69 : decode bX11_count.2.1 69 = .ok (.aload_n 0, 1) := by decide +kernel
theorem dX11_count_70 : decode bX11_count.2.1 70 = .ok (.getfield 10, 3) := by decide +kernel
theorem dX11_count_73 : decode bX11_count.2.1 73 = .ok (.getfield 96, 3) := by decide +kernel
theorem dX11_count_76 : decode bX11_count.2.1 76 = .ok (.ireturn, 1) := by decide +kernel
theorem dX11_count_77 : decode bX11_count.2.1 77 = .ok (.aload_n 0, 1) := by decide +kernel
theorem dX11_count_78 : decode bX11_count.2.1 78 = .ok (.getfield 88, 3) := by decide +kernel
theorem dX11_count_81 : decode bX11_count.2.1 81 = .ok (.ireturn, 1) := by decide +kernel
theorem dX11_count_82 : decode bX11_count.2.1 82 = .ok (.aload_n 0, 1) := by decide +kernel
theorem dX11_count_83 : decode bX11_count.2.1 83 = .ok (.getfield 58, 3) := by decide +kernel
theorem dX11_count_86 : decode bX11_count.2.1 86 = .ok (.getfield 223, 3) := by decide +kernel
theorem dX11_count_89 : decode bX11_count.2.1 89 = .ok (.ireturn, 1) := by decide +kernel
theorem dX11_count_90 : decode bX11_count.2.1 90 = .ok (.aload_n 0, 1) := by decide +kernel
theorem dX11_count_91 : decode bX11_count.2.1 91 = .ok (.getfield 58, 3) := by decide +kernel
theorem dX11_count_94 : decode bX11_count.2.1 94 = .ok (.getfield 188, 3) := by decide +kernel
theorem dX11_count_97 : decode bX11_count.2.1 97 = .ok (.invokestatic 242, 3) := by decide +kernel
theorem dX11_count_100 : decode bX11_count.2.1 100 = .ok (.ireturn, 1) := by decide +kernel
theorem dX11_count_101 : decode bX11_count.2.1 101 = .ok (.aload_n 0, 1) := by decide +kernel
theorem dX11_count_102 : decode bX11_count.2.1 102 = .ok (.getfield 58, 3) := by decide +kernel
theorem dX11_count_105 : decode bX11_count.2.1 105 = .ok (.getfield 274, 3) := by decide +kernel
theorem dX11_count_108 : decode bX11_count.2.1 108 = .ok (.invokestatic 242, 3) := by decide +kernel
theorem dX11_count_111 : decode bX11_count.2.1 111 = .ok (.ireturn, 1) := by decide +kernel
theorem dX11_count_112 : decode bX11_count.2.1 112 = .ok (.ldc 194, 2) := by decide +kernel
theorem dX11_count_114 : decode bX11_count.2.1 114 = .ok (.ireturn, 1) := by decide +kernel
