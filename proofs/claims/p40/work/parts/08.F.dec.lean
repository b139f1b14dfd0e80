theorem dL_cell_0 : decode bL_cell.2.1 0 = .ok (.iload_n 1, 1) := by decide +kernel
theorem dL_cell_1 : decode bL_cell.2.1 1 = .ok (.aload_n 0, 1) := by decide +kernel
theorem dL_cell_2 : decode bL_cell.2.1 2 = .ok (.arraylength, 1) := by decide +kernel
theorem dL_cell_3 : decode bL_cell.2.1 3 = .ok (.if_icmp .ge 9, 3) := by decide +kernel
theorem dL_cell_6 : decode bL_cell.2.1 6 = .ok (.aload_n 0, 1) := by decide +kernel
theorem dL_cell_7 : decode bL_cell.2.1 7 = .ok (.iload_n 1, 1) := by decide +kernel
theorem dL_cell_8 : decode bL_cell.2.1 8 = .ok (.iaload, 1) := by decide +kernel
theorem dL_cell_9 : decode bL_cell.2.1 9 = .ok (.goto 4, 3) := by decide +kernel
theorem dL_cell_12 : decode bL_cell.2.1 12 = .ok (.iconst 0, 1) := by decide +kernel
theorem dL_cell_13 : decode bL_cell.2.1 13 = .ok (.ireturn, 1) := by decide +kernel
theorem dL_pick_0 : decode bL_pick.2.1 0 = .ok (.aload_n 0, 1) := by decide +kernel
theorem dL_pick_1 : decode bL_pick.2.1 1 = .ok (.iload_n 1, 1) := by decide +kernel
theorem dL_pick_2 : decode bL_pick.2.1 2 = .ok (.invokestatic 7, 3) := by decide +kernel
theorem dL_pick_5 : decode bL_pick.2.1 5 = .ok (.ldc 13, 2) := by decide +kernel
theorem dL_pick_7 : decode bL_pick.2.1 7 = .ok (.iand, 1) := by decide +kernel
theorem dL_pick_8 : decode bL_pick.2.1 8 = .ok (.iload_n 2, 1) := by decide +kernel
theorem dL_pick_9 : decode bL_pick.2.1 9 = .ok (.irem, 1) := by decide +kernel
theorem dL_pick_10 : decode bL_pick.2.1 10 = .ok (.ireturn, 1) := by decide +kernel
theorem dL_tell_0 : decode bL_tell.2.1 0 = .ok (.aload_n 0, 1) := by decide +kernel
theorem dL_tell_1 : decode bL_tell.2.1 1 = .ok (.iconst 0, 1) := by decide +kernel
theorem dL_tell_2 : decode bL_tell.2.1 2 = .ok (.invokevirtual 14, 3) := by decide +kernel
theorem dL_tell_5 : decode bL_tell.2.1 5 = .ok (.pop, 1) := by decide +kernel
theorem dL_tell_6 : decode bL_tell.2.1 6 = .ok (.iconst 0, 1) := by decide +kernel
theorem dL_tell_7 : decode bL_tell.2.1 7 = .ok (.istore_n 2, 1) := by decide +kernel
theorem dL_tell_8 : decode bL_tell.2.1 8 = .ok (.iload_n 2, 1) := by decide +kernel
theorem dL_tell_9 : decode bL_tell.2.1 9 = .ok (.aload_n 1, 1) := by decide +kernel
theorem dL_tell_10 : decode bL_tell.2.1 10 = .ok (.invokevirtual 20, 3) := by decide +kernel
theorem dL_tell_13 : decode bL_tell.2.1 13 = .ok (.if_icmp .ge 65, 3) := by decide +kernel
theorem dL_tell_16 : decode bL_tell.2.1 16 = .ok (.iconst 0, 1) := by decide +kernel
theorem dL_tell_17 : decode bL_tell.2.1 17 = .ok (.istore_n 3, 1) := by decide +kernel
theorem dL_tell_18 : decode bL_tell.2.1 18 = .ok (.iconst 0, 1) := by decide +kernel
theorem dL_tell_19 : decode bL_tell.2.1 19 = .ok (.istore 4, 2) := by decide +kernel
theorem dL_tell_21 : decode bL_tell.2.1 21 = .ok (.iload 4, 2) := by decide +kernel
theorem dL_tell_23 : decode bL_tell.2.1 23 = .ok (.iconst 4, 1) := by decide +kernel
theorem dL_tell_24 : decode bL_tell.2.1 24 = .ok (.if_icmp .ge 38, 3) := by decide +kernel
theorem dL_tell_27 : decode bL_tell.2.1 27 = .ok (.iload_n 3, 1) := by decide +kernel
theorem dL_tell_28 : decode bL_tell.2.1 28 = .ok (.bipush 8, 2) := by decide +kernel
theorem dL_tell_30 : decode bL_tell.2.1 30 = .ok (.ishl, 1) := by decide +kernel
theorem dL_tell_31 : decode bL_tell.2.1 31 = .ok (.iload_n 2, 1) := by decide +kernel
theorem dL_tell_32 : decode bL_tell.2.1 32 = .ok (.iload 4, 2) := by decide +kernel
theorem dL_tell_34 : decode bL_tell.2.1 34 = .ok (.iadd, 1) := by decide +kernel
theorem dL_tell_35 : decode bL_tell.2.1 35 = .ok (.aload_n 1, 1) := by decide +kernel
theorem dL_tell_36 : decode bL_tell.2.1 36 = .ok (.invokevirtual 20, 3) := by decide +kernel
theorem dL_tell_39 : decode bL_tell.2.1 39 = .ok (.if_icmp .ge 14, 3) := by decide +kernel
theorem dL_tell_42 : decode bL_tell.2.1 42 = .ok (.aload_n 1, 1) := by decide +kernel
theorem dL_tell_43 : decode bL_tell.2.1 43 = .ok (.iload_n 2, 1) := by decide +kernel
theorem dL_tell_44 : decode bL_tell.2.1 44 = .ok (.iload 4, 2) := by decide +kernel
theorem dL_tell_46 : decode bL_tell.2.1 46 = .ok (.iadd, 1) := by decide +kernel
theorem dL_tell_47 : decode bL_tell.2.1 47 = .ok (.invokevirtual 26, 3) := by decide +kernel
theorem dL_tell_50 : decode bL_tell.2.1 50 = .ok (.goto 4, 3) := by decide +kernel
theorem dL_tell_53 : decode bL_tell.2.1 53 = .ok (.iconst 0, 1) := by decide +kernel
theorem dL_tell_54 : decode bL_tell.2.1 54 = .ok (.ior, 1) := by decide +kernel
theorem dL_tell_55 : decode bL_tell.2.1 55 = .ok (.istore_n 3, 1) := by decide +kernel
theorem dL_tell_56 : decode bL_tell.2.1 56 = .ok (.iinc 4 1, 3) := by decide +kernel
theorem dL_tell_59 : decode bL_tell.2.1 59 = .ok (.goto (-38), 3) := by decide +kernel
theorem dL_tell_62 : decode bL_tell.2.1 62 = .ok (.aload_n 0, 1) := by decide +kernel
theorem dL_tell_63 : decode bL_tell.2.1 63 = .ok (.iload_n 3, 1) := by decide +kernel
theorem dL_tell_64 : decode bL_tell.2.1 64 = .ok (.iconst 0, 1) := by decide +kernel
theorem dL_tell_65 : decode bL_tell.2.1 65 = .ok (.iconst 0, 1) := by decide +kernel
theorem dL_tell_66 : decode bL_tell.2.1 66 = .ok (.iconst 0, 1) := by decide +kernel
theorem dL_tell_67 : decode bL_tell.2.1 67 = .ok (.iconst 0, 1) := by decide +kernel
theorem dL_tell_68 : decode bL_tell.2.1 68 = .ok (.invokevirtual 30, 3) := by decide +kernel
theorem dL_tell_71 : decode bL_tell.2.1 71 = .ok (.pop, 1) := by decide +kernel
theorem dL_tell_72 : decode bL_tell.2.1 72 = .ok (.iinc 2 4, 3) := by decide +kernel
theorem dL_tell_75 : decode bL_tell.2.1 75 = .ok (.goto (-67), 3) := by decide +kernel
theorem dL_tell_78 : decode bL_tell.2.1 78 = .ok (.aload_n 0, 1) := by decide +kernel
theorem dL_tell_79 : decode bL_tell.2.1 79 = .ok (.iconst 3, 1) := by decide +kernel
theorem dL_tell_80 : decode bL_tell.2.1 80 = .ok (.invokevirtual 34, 3) := by decide +kernel
theorem dL_tell_83 : decode bL_tell.2.1 83 = .ok (.aload_n 1, 1) := by decide +kernel
theorem dL_tell_84 : decode bL_tell.2.1 84 = .ok (.invokevirtual 20, 3) := by decide +kernel
theorem dL_tell_87 : decode bL_tell.2.1 87 = .ok (.if_icmp .ne 7, 3) := by decide +kernel
theorem dL_tell_90 : decode bL_tell.2.1 90 = .ok (.iconst 1, 1) := by decide +kernel
theorem dL_tell_91 : decode bL_tell.2.1 91 = .ok (.goto 4, 3) := by decide +kernel
theorem dL_tell_94 : decode bL_tell.2.1 94 = .ok (.iconst 0, 1) := by decide +kernel
theorem dL_tell_95 : decode bL_tell.2.1 95 = .ok (.ireturn, 1) := by decide +kernel
theorem dL_speech_0 : decode bL_speech.2.1 0 = .ok (.aload_n 0, 1) := by decide +kernel
theorem dL_speech_1 : decode bL_speech.2.1 1 = .ok (.iload_n 1, 1) := by decide +kernel
theorem dL_speech_2 : decode bL_speech.2.1 2 = .ok (.iload_n 2, 1) := by decide +kernel
theorem dL_speech_3 : decode bL_speech.2.1 3 = .ok (.invokevirtual 38, 3) := by decide +kernel
theorem dL_speech_6 : decode bL_speech.2.1 6 = .ok (.ireturn, 1) := by decide +kernel
theorem dL_speech_7 : decode bL_speech.2.1 7 = .ok (.astore_n 3, 1) := by decide +kernel
theorem dL_speech_8 : decode bL_speech.2.1 8 = .ok (.bipush (-9), 2) := by decide +kernel
theorem dL_speech_10 : decode bL_speech.2.1 10 = .ok (.ireturn, 1) := by decide +kernel
theorem dL_book_0 : decode bL_book.2.1 0 = .ok (.ldc 44, 2) := by decide +kernel
theorem dL_book_2 : decode bL_book.2.1 2 = .ok (.astore 4, 2) := by decide +kernel
theorem dL_book_4 : decode bL_book.2.1 4 = .ok (.iconst 1, 1) := by decide +kernel
theorem dL_book_5 : decode bL_book.2.1 5 = .ok (.aload_n 0, 1) := by decide +kernel
theorem dL_book_6 : decode bL_book.2.1 6 = .ok (.iload_n 1, 1) := by decide +kernel
theorem dL_book_7 : decode bL_book.2.1 7 = .ok (.bipush 24, 2) := by decide +kernel
theorem dL_book_9 : decode bL_book.2.1 9 = .ok (.iadd, 1) := by decide +kernel
theorem dL_book_10 : decode bL_book.2.1 10 = .ok (.iconst 4, 1) := by decide +kernel
theorem dL_book_11 : decode bL_book.2.1 11 = .ok (.invokestatic 46, 3) := by decide +kernel
theorem dL_book_14 : decode bL_book.2.1 14 = .ok (.iadd, 1) := by decide +kernel
theorem dL_book_15 : decode bL_book.2.1 15 = .ok (.istore 5, 2) := by decide +kernel
theorem dL_book_17 : decode bL_book.2.1 17 = .ok (.iconst 1, 1) := by decide +kernel
theorem dL_book_18 : decode bL_book.2.1 18 = .ok (.aload_n 0, 1) := by decide +kernel
theorem dL_book_19 : decode bL_book.2.1 19 = .ok (.iload_n 1, 1) := by decide +kernel
theorem dL_book_20 : decode bL_book.2.1 20 = .ok (.bipush 25, 2) := by decide +kernel
theorem dL_book_22 : decode bL_book.2.1 22 = .ok (.iadd, 1) := by decide +kernel
theorem dL_book_23 : decode bL_book.2.1 23 = .ok (.iconst 4, 1) := by decide +kernel
theorem dL_book_24 : decode bL_book.2.1 24 = .ok (.invokestatic 46, 3) := by decide +kernel
theorem dL_book_27 : decode bL_book.2.1 27 = .ok (.iadd, 1) := by decide +kernel
theorem dL_book_28 : decode bL_book.2.1 28 = .ok (.istore 6, 2) := by decide +kernel
theorem dL_book_30 : decode bL_book.2.1 30 = .ok (.iconst 0, 1) := by decide +kernel
theorem dL_book_31 : decode bL_book.2.1 31 = .ok (.istore 7, 2) := by decide +kernel
theorem dL_book_33 : decode bL_book.2.1 33 = .ok (.iload 7, 2) := by decide +kernel
theorem dL_book_35 : decode bL_book.2.1 35 = .ok (.iload_n 2, 1) := by decide +kernel
theorem dL_book_36 : decode bL_book.2.1 36 = .ok (.if_icmp .ge 176, 3) := by decide +kernel
theorem dL_book_39 : decode bL_book.2.1 39 = .ok (.aload_n 0, 1) := by decide +kernel
theorem dL_book_40 : decode bL_book.2.1 40 = .ok (.iload_n 1, 1) := by decide +kernel
theorem dL_book_41 : decode bL_book.2.1 41 = .ok (.iload 7, 2) := by decide +kernel
theorem dL_book_43 : decode bL_book.2.1 43 = .ok (.iadd, 1) := by decide +kernel
theorem dL_book_44 : decode bL_book.2.1 44 = .ok (.invokestatic 7, 3) := by decide +kernel
theorem dL_book_47 : decode bL_book.2.1 47 = .ok (.ldc 13, 2) := by decide +kernel
theorem dL_book_49 : decode bL_book.2.1 49 = .ok (.iand, 1) := by decide +kernel
theorem dL_book_50 : decode bL_book.2.1 50 = .ok (.istore 8, 2) := by decide +kernel
theorem dL_book_52 : decode bL_book.2.1 52 = .ok (.aload_n 3, 1) := by decide +kernel
theorem dL_book_53 : decode bL_book.2.1 53 = .ok (.iload 7, 2) := by decide +kernel
theorem dL_book_55 : decode bL_book.2.1 55 = .ok (.aaload, 1) := by decide +kernel
theorem dL_book_56 : decode bL_book.2.1 56 = .ok (.iconst 0, 1) := by decide +kernel
theorem dL_book_57 : decode bL_book.2.1 57 = .ok (.iload 8, 2) := by decide +kernel
theorem dL_book_59 : decode bL_book.2.1 59 = .ok (.iload 5, 2) := by decide +kernel
theorem dL_book_61 : decode bL_book.2.1 61 = .ok (.irem, 1) := by decide +kernel
theorem dL_book_62 : decode bL_book.2.1 62 = .ok (.iastore, 1) := by decide +kernel
theorem dL_book_63 : decode bL_book.2.1 63 = .ok (.aload_n 3, 1) := by decide +kernel
theorem dL_book_64 : decode bL_book.2.1 64 = .ok (.iload 7, 2) := by decide +kernel
theorem dL_book_66 : decode bL_book.2.1 66 = .ok (.aaload, 1) := by decide +kernel
theorem dL_book_67 : decode bL_book.2.1 67 = .ok (.iconst 1, 1) := by decide +kernel
theorem dL_book_68 : decode bL_book.2.1 68 = .ok (.iload 8, 2) := by decide +kernel
theorem dL_book_70 : decode bL_book.2.1 70 = .ok (.iconst 4, 1) := by decide +kernel
theorem dL_book_71 : decode bL_book.2.1 71 = .ok (.ishr, 1) := by decide +kernel
theorem dL_book_72 : decode bL_book.2.1 72 = .ok (.iload 6, 2) := by decide +kernel
theorem dL_book_74 : decode bL_book.2.1 74 = .ok (.irem, 1) := by decide +kernel
theorem dL_book_75 : decode bL_book.2.1 75 = .ok (.iastore, 1) := by decide +kernel
theorem dL_book_76 : decode bL_book.2.1 76 = .ok (.aload_n 3, 1) := by decide +kernel
theorem dL_book_77 : decode bL_book.2.1 77 = .ok (.iload 7, 2) := by decide +kernel
theorem dL_book_79 : decode bL_book.2.1 79 = .ok (.aaload, 1) := by decide +kernel
theorem dL_book_80 : decode bL_book.2.1 80 = .ok (.iconst 2, 1) := by decide +kernel
theorem dL_book_81 : decode bL_book.2.1 81 = .ok (.iload 8, 2) := by decide +kernel
theorem dL_book_83 : decode bL_book.2.1 83 = .ok (.bipush 8, 2) := by decide +kernel
theorem dL_book_85 : decode bL_book.2.1 85 = .ok (.ishr, 1) := by decide +kernel
theorem dL_book_86 : decode bL_book.2.1 86 = .ok (.iconst 3, 1) := by decide +kernel
theorem dL_book_87 : decode bL_book.2.1 87 = .ok (.irem, 1) := by decide +kernel
theorem dL_book_88 : decode bL_book.2.1 88 = .ok (.ifCond .ne 16, 3) := by decide +kernel
theorem dL_book_91 : decode bL_book.2.1 91 = .ok (.iconst 1, 1) := by decide +kernel
theorem dL_book_92 : decode bL_book.2.1 92 = .ok (.iload 8, 2) := by decide +kernel
theorem dL_book_94 : decode bL_book.2.1 94 = .ok (.bipush 10, 2) := by decide +kernel
theorem dL_book_96 : decode bL_book.2.1 96 = .ok (.ishr, 1) := by decide +kernel
theorem dL_book_97 : decode bL_book.2.1 97 = .ok (.bipush 99, 2) := by decide +kernel
theorem dL_book_99 : decode bL_book.2.1 99 = .ok (.irem, 1) := by decide +kernel
theorem dL_book_100 : decode bL_book.2.1 100 = .ok (.iadd, 1) := by decide +kernel
theorem dL_book_101 : decode bL_book.2.1 101 = .ok (.goto 4, 3) := by decide +kernel
theorem dL_book_104 : decode bL_book.2.1 104 = .ok (.iconst 5, 1) := by decide +kernel
theorem dL_book_105 : decode bL_book.2.1 105 = .ok (.iastore, 1) := by decide +kernel
theorem dL_book_106 : decode bL_book.2.1 106 = .ok (.new 50, 3) := by decide +kernel
theorem dL_book_109 : decode bL_book.2.1 109 = .ok (.dup, 1) := by decide +kernel
theorem dL_book_110 : decode bL_book.2.1 110 = .ok (.invokespecial 52, 3) := by decide +kernel
theorem dL_book_113 : decode bL_book.2.1 113 = .ok (.aload 4, 2) := by decide +kernel
theorem dL_book_115 : decode bL_book.2.1 115 = .ok (.invokevirtual 53, 3) := by decide +kernel
theorem dL_book_118 : decode bL_book.2.1 118 = .ok (.iload 7, 2) := by decide +kernel
theorem dL_book_120 : decode bL_book.2.1 120 = .ok (.ifCond .le 8, 3) := by decide +kernel
theorem dL_book_123 : decode bL_book.2.1 123 = .ok (.ldc 57, 2) := by decide +kernel
theorem dL_book_125 : decode bL_book.2.1 125 = .ok (.goto 5, 3) := by decide +kernel
theorem dL_book_128 : decode bL_book.2.1 128 = .ok (.ldc 44, 2) := by decide +kernel
theorem dL_book_130 : decode bL_book.2.1 130 = .ok (.invokevirtual 53, 3) := by decide +kernel
theorem dL_book_133 : decode bL_book.2.1 133 = .ok (.bipush 65, 2) := by decide +kernel
theorem dL_book_135 : decode bL_book.2.1 135 = .ok (.aload_n 3, 1) := by decide +kernel
theorem dL_book_136 : decode bL_book.2.1 136 = .ok (.iload 7, 2) := by decide +kernel
theorem dL_book_138 : decode bL_book.2.1 138 = .ok (.aaload, 1) := by decide +kernel
theorem dL_book_139 : decode bL_book.2.1 139 = .ok (.iconst 0, 1) := by decide +kernel
theorem dL_book_140 : decode bL_book.2.1 140 = .ok (.iaload, 1) := by decide +kernel
theorem dL_book_141 : decode bL_book.2.1 141 = .ok (.iadd, 1) := by decide +kernel
theorem dL_book_142 : decode bL_book.2.1 142 = .ok (.i2c, 1) := by decide +kernel
theorem dL_book_143 : decode bL_book.2.1 143 = .ok (.invokevirtual 59, 3) := by decide +kernel
theorem dL_book_146 : decode bL_book.2.1 146 = .ok (.bipush 97, 2) := by decide +kernel
theorem dL_book_148 : decode bL_book.2.1 148 = .ok (.aload_n 3, 1) := by decide +kernel
theorem dL_book_149 : decode bL_book.2.1 149 = .ok (.iload 7, 2) := by decide +kernel
theorem dL_book_151 : decode bL_book.2.1 151 = .ok (.aaload, 1) := by decide +kernel
theorem dL_book_152 : decode bL_book.2.1 152 = .ok (.iconst 1, 1) := by decide +kernel
theorem dL_book_153 : decode bL_book.2.1 153 = .ok (.iaload, 1) := by decide +kernel
theorem dL_book_154 : decode bL_book.2.1 154 = .ok (.iadd, 1) := by decide +kernel
theorem dL_book_155 : decode bL_book.2.1 155 = .ok (.i2c, 1) := by decide +kernel
theorem dL_book_156 : decode bL_book.2.1 156 = .ok (.invokevirtual 59, 3) := by decide +kernel
theorem dL_book_159 : decode bL_book.2.1 159 = .ok (.aload_n 3, 1) := by decide +kernel
theorem dL_book_160 : decode bL_book.2.1 160 = .ok (.iload 7, 2) := by decide +kernel
theorem dL_book_162 : decode bL_book.2.1 162 = .ok (.aaload, 1) := by decide +kernel
theorem dL_book_163 : decode bL_book.2.1 163 = .ok (.iconst 2, 1) := by decide +kernel
theorem dL_book_164 : decode bL_book.2.1 164 = .ok (.iaload, 1) := by decide +kernel
theorem dL_book_165 : decode bL_book.2.1 165 = .ok (.iconst 5, 1) := by decide +kernel
theorem dL_book_166 : decode bL_book.2.1 166 = .ok (.if_icmp .ne 8, 3) := by decide +kernel
theorem dL_book_169 : decode bL_book.2.1 169 = .ok (.ldc 44, 2) := by decide +kernel
theorem dL_book_171 : decode bL_book.2.1 171 = .ok (.goto 27, 3) := by decide +kernel
theorem dL_book_174 : decode bL_book.2.1 174 = .ok (.new 50, 3) := by decide +kernel
theorem dL_book_177 : decode bL_book.2.1 177 = .ok (.dup, 1) := by decide +kernel
theorem dL_book_178 : decode bL_book.2.1 178 = .ok (.invokespecial 52, 3) := by decide +kernel
theorem dL_book_181 : decode bL_book.2.1 181 = .ok (.ldc 44, 2) := by decide +kernel
theorem dL_book_183 : decode bL_book.2.1 183 = .ok (.invokevirtual 53, 3) := by decide +kernel
theorem dL_book_186 : decode bL_book.2.1 186 = .ok (.aload_n 3, 1) := by decide +kernel
theorem dL_book_187 : decode bL_book.2.1 187 = .ok (.iload 7, 2) := by decide +kernel
theorem dL_book_189 : decode bL_book.2.1 189 = .ok (.aaload, 1) := by decide +kernel
theorem dL_book_190 : decode bL_book.2.1 190 = .ok (.iconst 2, 1) := by decide +kernel
theorem dL_book_191 : decode bL_book.2.1 191 = .ok (.iaload, 1) := by decide +kernel
theorem dL_book_192 : decode bL_book.2.1 192 = .ok (.invokevirtual 62, 3) := by decide +kernel
theorem dL_book_195 : decode bL_book.2.1 195 = .ok (.invokevirtual 65, 3) := by decide +kernel
theorem dL_book_198 : decode bL_book.2.1 198 = .ok (.invokevirtual 53, 3) := by decide +kernel
theorem dL_book_201 : decode bL_book.2.1 201 = .ok (.invokevirtual 65, 3) := by decide +kernel
theorem dL_book_204 : decode bL_book.2.1 204 = .ok (.astore 4, 2) := by decide +kernel
theorem dL_book_206 : decode bL_book.2.1 206 = .ok (.iinc 7 1, 3) := by decide +kernel
theorem dL_book_209 : decode bL_book.2.1 209 = .ok (.goto (-176), 3) := by decide +kernel
theorem dL_book_212 : decode bL_book.2.1 212 = .ok (.aload 4, 2) := by decide +kernel
theorem dL_book_214 : decode bL_book.2.1 214 = .ok (.areturn, 1) := by decide +kernel
theorem dL_law_0 : decode bL_law.2.1 0 = .ok (.new 15, 3) := by decide +kernel
theorem dL_law_3 : decode bL_law.2.1 3 = .ok (.dup, 1) := by decide +kernel
theorem dL_law_4 : decode bL_law.2.1 4 = .ok (.invokespecial 78, 3) := by decide +kernel
theorem dL_law_7 : decode bL_law.2.1 7 = .ok (.astore_n 1, 1) := by decide +kernel
theorem dL_law_8 : decode bL_law.2.1 8 = .ok (.iconst 0, 1) := by decide +kernel
theorem dL_law_9 : decode bL_law.2.1 9 = .ok (.istore_n 2, 1) := by decide +kernel
theorem dL_law_10 : decode bL_law.2.1 10 = .ok (.iconst 0, 1) := by decide +kernel
theorem dL_law_11 : decode bL_law.2.1 11 = .ok (.istore_n 3, 1) := by decide +kernel
theorem dL_law_12 : decode bL_law.2.1 12 = .ok (.iconst 0, 1) := by decide +kernel
theorem dL_law_13 : decode bL_law.2.1 13 = .ok (.istore 4, 2) := by decide +kernel
theorem dL_law_15 : decode bL_law.2.1 15 = .ok (.iconst (-1), 1) := by decide +kernel
theorem dL_law_16 : decode bL_law.2.1 16 = .ok (.istore 5, 2) := by decide +kernel
theorem dL_law_18 : decode bL_law.2.1 18 = .ok (.iconst 0, 1) := by decide +kernel
theorem dL_law_19 : decode bL_law.2.1 19 = .ok (.istore 6, 2) := by decide +kernel
theorem dL_law_21 : decode bL_law.2.1 21 = .ok (.iload 6, 2) := by decide +kernel
theorem dL_law_23 : decode bL_law.2.1 23 = .ok (.bipush 36, 2) := by decide +kernel
theorem dL_law_25 : decode bL_law.2.1 25 = .ok (.if_icmp .ge 1021, 3) := by decide +kernel
theorem dL_law_28 : decode bL_law.2.1 28 = .ok (.aload_n 0, 1) := by decide +kernel
theorem dL_law_29 : decode bL_law.2.1 29 = .ok (.iload 6, 2) := by decide +kernel
theorem dL_law_31 : decode bL_law.2.1 31 = .ok (.invokestatic 7, 3) := by decide +kernel
theorem dL_law_34 : decode bL_law.2.1 34 = .ok (.ldc 13, 2) := by decide +kernel
theorem dL_law_36 : decode bL_law.2.1 36 = .ok (.iand, 1) := by decide +kernel
theorem dL_law_37 : decode bL_law.2.1 37 = .ok (.istore 7, 2) := by decide +kernel
theorem dL_law_39 : decode bL_law.2.1 39 = .ok (.iload 6, 2) := by decide +kernel
theorem dL_law_41 : decode bL_law.2.1 41 = .ok (.ifCond .ne 7, 3) := by decide +kernel
theorem dL_law_44 : decode bL_law.2.1 44 = .ok (.iconst 0, 1) := by decide +kernel
theorem dL_law_45 : decode bL_law.2.1 45 = .ok (.goto 8, 3) := by decide +kernel
theorem dL_law_48 : decode bL_law.2.1 48 = .ok (.iload 7, 2) := by decide +kernel
theorem dL_law_50 : decode bL_law.2.1 50 = .ok (.bipush 9, 2) := by decide +kernel
theorem dL_law_52 : decode bL_law.2.1 52 = .ok (.irem, 1) := by decide +kernel
theorem dL_law_53 : decode bL_law.2.1 53 = .ok (.tableswitch 562 0 7 #[47, 124, 234, 270, 358, 400, 400, 492], 47) := by decide +kernel
theorem dL_law_100 : decode bL_law.2.1 100 = .ok (.iload 6, 2) := by decide +kernel
theorem dL_law_102 : decode bL_law.2.1 102 = .ok (.ifCond .le 14, 3) := by decide +kernel
theorem dL_law_105 : decode bL_law.2.1 105 = .ok (.iload 7, 2) := by decide +kernel
theorem dL_law_107 : decode bL_law.2.1 107 = .ok (.bipush 16, 2) := by decide +kernel
theorem dL_law_109 : decode bL_law.2.1 109 = .ok (.iand, 1) := by decide +kernel
theorem dL_law_110 : decode bL_law.2.1 110 = .ok (.ifCond .eq 6, 3) := by decide +kernel
theorem dL_law_113 : decode bL_law.2.1 113 = .ok (.goto 513, 3) := by decide +kernel
theorem dL_law_116 : decode bL_law.2.1 116 = .ok (.iconst 2, 1) := by decide +kernel
theorem dL_law_117 : decode bL_law.2.1 117 = .ok (.iload 7, 2) := by decide +kernel
theorem dL_law_119 : decode bL_law.2.1 119 = .ok (.iconst 5, 1) := by decide +kernel
theorem dL_law_120 : decode bL_law.2.1 120 = .ok (.ishr, 1) := by decide +kernel
theorem dL_law_121 : decode bL_law.2.1 121 = .ok (.bipush 12, 2) := by decide +kernel
theorem dL_law_123 : decode bL_law.2.1 123 = .ok (.irem, 1) := by decide +kernel
theorem dL_law_124 : decode bL_law.2.1 124 = .ok (.iadd, 1) := by decide +kernel
theorem dL_law_125 : decode bL_law.2.1 125 = .ok (.istore 8, 2) := by decide +kernel
theorem dL_law_127 : decode bL_law.2.1 127 = .ok (.aload_n 1, 1) := by decide +kernel
theorem dL_law_128 : decode bL_law.2.1 128 = .ok (.aload_n 0, 1) := by decide +kernel
theorem dL_law_129 : decode bL_law.2.1 129 = .ok (.iconst 1, 1) := by decide +kernel
theorem dL_law_130 : decode bL_law.2.1 130 = .ok (.iload 6, 2) := by decide +kernel
theorem dL_law_132 : decode bL_law.2.1 132 = .ok (.iconst 2, 1) := by decide +kernel
theorem dL_law_133 : decode bL_law.2.1 133 = .ok (.idiv, 1) := by decide +kernel
theorem dL_law_134 : decode bL_law.2.1 134 = .ok (.iadd, 1) := by decide +kernel
theorem dL_law_135 : decode bL_law.2.1 135 = .ok (.iload 8, 2) := by decide +kernel
theorem dL_law_137 : decode bL_law.2.1 137 = .ok (.iload 8, 2) := by decide +kernel
theorem dL_law_139 : decode bL_law.2.1 139 = .ok (.iconst 3, 1) := by decide +kernel
theorem dL_law_140 : decode bL_law.2.1 140 = .ok (.multianewarray 79 2, 4) := by decide +kernel
theorem dL_law_144 : decode bL_law.2.1 144 = .ok (.invokestatic 81, 3) := by decide +kernel
theorem dL_law_147 : decode bL_law.2.1 147 = .ok (.invokestatic 85, 3) := by decide +kernel
theorem dL_law_150 : decode bL_law.2.1 150 = .ok (.ifCond .eq 13, 3) := by decide +kernel
theorem dL_law_153 : decode bL_law.2.1 153 = .ok (.aload_n 1, 1) := by decide +kernel
theorem dL_law_154 : decode bL_law.2.1 154 = .ok (.iconst 0, 1) := by decide +kernel
theorem dL_law_155 : decode bL_law.2.1 155 = .ok (.invokevirtual 89, 3) := by decide +kernel
theorem dL_law_158 : decode bL_law.2.1 158 = .ok (.iload 8, 2) := by decide +kernel
theorem dL_law_160 : decode bL_law.2.1 160 = .ok (.if_icmp .eq 5, 3) := by decide +kernel
theorem dL_law_163 : decode bL_law.2.1 163 = .ok (.iconst 0, 1) := by decide +kernel
theorem dL_law_164 : decode bL_law.2.1 164 = .ok (.ireturn, 1) := by decide +kernel
theorem dL_law_165 : decode bL_law.2.1 165 = .ok (.iload 8, 2) := by decide +kernel
theorem dL_law_167 : decode bL_law.2.1 167 = .ok (.istore_n 3, 1) := by decide +kernel
theorem dL_law_168 : decode bL_law.2.1 168 = .ok (.iconst 0, 1) := by decide +kernel
theorem dL_law_169 : decode bL_law.2.1 169 = .ok (.istore 4, 2) := by decide +kernel
theorem dL_law_171 : decode bL_law.2.1 171 = .ok (.iconst (-1), 1) := by decide +kernel
theorem dL_law_172 : decode bL_law.2.1 172 = .ok (.istore 5, 2) := by decide +kernel
theorem dL_law_174 : decode bL_law.2.1 174 = .ok (.goto 452, 3) := by decide +kernel
theorem dL_law_177 : decode bL_law.2.1 177 = .ok (.aload_n 1, 1) := by decide +kernel
theorem dL_law_178 : decode bL_law.2.1 178 = .ok (.iload 7, 2) := by decide +kernel
theorem dL_law_180 : decode bL_law.2.1 180 = .ok (.bipush 16, 2) := by decide +kernel
theorem dL_law_182 : decode bL_law.2.1 182 = .ok (.iand, 1) := by decide +kernel
theorem dL_law_183 : decode bL_law.2.1 183 = .ok (.ifCond .ne 31, 3) := by decide +kernel
theorem dL_law_186 : decode bL_law.2.1 186 = .ok (.new 50, 3) := by decide +kernel
theorem dL_law_189 : decode bL_law.2.1 189 = .ok (.dup, 1) := by decide +kernel
theorem dL_law_190 : decode bL_law.2.1 190 = .ok (.invokespecial 52, 3) := by decide +kernel
theorem dL_law_193 : decode bL_law.2.1 193 = .ok (.ldc 92, 2) := by decide +kernel
theorem dL_law_195 : decode bL_law.2.1 195 = .ok (.invokevirtual 53, 3) := by decide +kernel
theorem dL_law_198 : decode bL_law.2.1 198 = .ok (.iload 7, 2) := by decide +kernel
theorem dL_law_200 : decode bL_law.2.1 200 = .ok (.iconst 5, 1) := by decide +kernel
theorem dL_law_201 : decode bL_law.2.1 201 = .ok (.ishr, 1) := by decide +kernel
theorem dL_law_202 : decode bL_law.2.1 202 = .ok (.bipush 30, 2) := by decide +kernel
theorem dL_law_204 : decode bL_law.2.1 204 = .ok (.irem, 1) := by decide +kernel
theorem dL_law_205 : decode bL_law.2.1 205 = .ok (.invokevirtual 62, 3) := by decide +kernel
theorem dL_law_208 : decode bL_law.2.1 208 = .ok (.invokevirtual 65, 3) := by decide +kernel
theorem dL_law_211 : decode bL_law.2.1 211 = .ok (.goto 32, 3) := by decide +kernel
theorem dL_law_214 : decode bL_law.2.1 214 = .ok (.new 50, 3) := by decide +kernel
theorem dL_law_217 : decode bL_law.2.1 217 = .ok (.dup, 1) := by decide +kernel
theorem dL_law_218 : decode bL_law.2.1 218 = .ok (.invokespecial 52, 3) := by decide +kernel
theorem dL_law_221 : decode bL_law.2.1 221 = .ok (.ldc 94, 2) := by decide +kernel
theorem dL_law_223 : decode bL_law.2.1 223 = .ok (.invokevirtual 53, 3) := by decide +kernel
theorem dL_law_226 : decode bL_law.2.1 226 = .ok (.iload 7, 2) := by decide +kernel
theorem dL_law_228 : decode bL_law.2.1 228 = .ok (.iconst 5, 1) := by decide +kernel
theorem dL_law_229 : decode bL_law.2.1 229 = .ok (.ishr, 1) := by decide +kernel
theorem dL_law_230 : decode bL_law.2.1 230 = .ok (.iconst 4, 1) := by decide +kernel
theorem dL_law_231 : decode bL_law.2.1 231 = .ok (.irem, 1) := by decide +kernel
theorem dL_law_232 : decode bL_law.2.1 232 = .ok (.invokevirtual 62, 3) := by decide +kernel
theorem dL_law_235 : decode bL_law.2.1 235 = .ok (.ldc 96, 2) := by decide +kernel
theorem dL_law_237 : decode bL_law.2.1 237 = .ok (.invokevirtual 53, 3) := by decide +kernel
theorem dL_law_240 : decode bL_law.2.1 240 = .ok (.invokevirtual 65, 3) := by decide +kernel
theorem dL_law_243 : decode bL_law.2.1 243 = .ok (.invokestatic 85, 3) := by decide +kernel
theorem dL_law_246 : decode bL_law.2.1 246 = .ok (.ifCond .ne 5, 3) := by decide +kernel
theorem dL_law_249 : decode bL_law.2.1 249 = .ok (.iconst 0, 1) := by decide +kernel
theorem dL_law_250 : decode bL_law.2.1 250 = .ok (.ireturn, 1) := by decide +kernel
theorem dL_law_251 : decode bL_law.2.1 251 = .ok (.aload_n 1, 1) := by decide +kernel
theorem dL_law_252 : decode bL_law.2.1 252 = .ok (.iconst 1, 1) := by decide +kernel
theorem dL_law_253 : decode bL_law.2.1 253 = .ok (.invokevirtual 89, 3) := by decide +kernel
theorem dL_law_256 : decode bL_law.2.1 256 = .ok (.istore 8, 2) := by decide +kernel
theorem dL_law_258 : decode bL_law.2.1 258 = .ok (.iload 8, 2) := by decide +kernel
theorem dL_law_260 : decode bL_law.2.1 260 = .ok (.iload_n 2, 1) := by decide +kernel
theorem dL_law_261 : decode bL_law.2.1 261 = .ok (.iconst 4, 1) := by decide +kernel
theorem dL_law_262 : decode bL_law.2.1 262 = .ok (.if_icmp .ge 7, 3) := by decide +kernel
theorem dL_law_265 : decode bL_law.2.1 265 = .ok (.iload_n 2, 1) := by decide +kernel
theorem dL_law_266 : decode bL_law.2.1 266 = .ok (.goto 4, 3) := by decide +kernel
theorem dL_law_269 : decode bL_law.2.1 269 = .ok (.iconst (-1), 1) := by decide +kernel
theorem dL_law_270 : decode bL_law.2.1 270 = .ok (.if_icmp .eq 5, 3) := by decide +kernel
theorem dL_law_273 : decode bL_law.2.1 273 = .ok (.iconst 0, 1) := by decide +kernel
theorem dL_law_274 : decode bL_law.2.1 274 = .ok (.ireturn, 1) := by decide +kernel
theorem dL_law_275 : decode bL_law.2.1 275 = .ok (.iload 8, 2) := by decide +kernel
theorem dL_law_277 : decode bL_law.2.1 277 = .ok (.iconst (-1), 1) := by decide +kernel
theorem dL_law_278 : decode bL_law.2.1 278 = .ok (.if_icmp .eq 348, 3) := by decide +kernel
theorem dL_law_281 : decode bL_law.2.1 281 = .ok (.iinc 2 1, 3) := by decide +kernel
theorem dL_law_284 : decode bL_law.2.1 284 = .ok (.goto 342, 3) := by decide +kernel
theorem dL_law_287 : decode bL_law.2.1 287 = .ok (.aload_n 1, 1) := by decide +kernel
theorem dL_law_288 : decode bL_law.2.1 288 = .ok (.iload 7, 2) := by decide +kernel
theorem dL_law_290 : decode bL_law.2.1 290 = .ok (.iconst 4, 1) := by decide +kernel
theorem dL_law_291 : decode bL_law.2.1 291 = .ok (.ishr, 1) := by decide +kernel
theorem dL_law_292 : decode bL_law.2.1 292 = .ok (.bipush 6, 2) := by decide +kernel
theorem dL_law_294 : decode bL_law.2.1 294 = .ok (.irem, 1) := by decide +kernel
theorem dL_law_295 : decode bL_law.2.1 295 = .ok (.iconst 1, 1) := by decide +kernel
theorem dL_law_296 : decode bL_law.2.1 296 = .ok (.isub, 1) := by decide +kernel
theorem dL_law_297 : decode bL_law.2.1 297 = .ok (.invokevirtual 98, 3) := by decide +kernel
theorem dL_law_300 : decode bL_law.2.1 300 = .ok (.iload 7, 2) := by decide +kernel
theorem dL_law_302 : decode bL_law.2.1 302 = .ok (.iconst 4, 1) := by decide +kernel
theorem dL_law_303 : decode bL_law.2.1 303 = .ok (.ishr, 1) := by decide +kernel
theorem dL_law_304 : decode bL_law.2.1 304 = .ok (.bipush 6, 2) := by decide +kernel
theorem dL_law_306 : decode bL_law.2.1 306 = .ok (.irem, 1) := by decide +kernel
theorem dL_law_307 : decode bL_law.2.1 307 = .ok (.iconst 1, 1) := by decide +kernel
theorem dL_law_308 : decode bL_law.2.1 308 = .ok (.isub, 1) := by decide +kernel
theorem dL_law_309 : decode bL_law.2.1 309 = .ok (.iload_n 2, 1) := by decide +kernel
theorem dL_law_310 : decode bL_law.2.1 310 = .ok (.if_icmp .ge 7, 3) := by decide +kernel
theorem dL_law_313 : decode bL_law.2.1 313 = .ok (.iconst 1, 1) := by decide +kernel
theorem dL_law_314 : decode bL_law.2.1 314 = .ok (.goto 4, 3) := by decide +kernel
theorem dL_law_317 : decode bL_law.2.1 317 = .ok (.iconst 0, 1) := by decide +kernel
theorem dL_law_318 : decode bL_law.2.1 318 = .ok (.if_icmp .eq 308, 3) := by decide +kernel
theorem dL_law_321 : decode bL_law.2.1 321 = .ok (.iconst 0, 1) := by decide +kernel
theorem dL_law_322 : decode bL_law.2.1 322 = .ok (.ireturn, 1) := by decide +kernel
theorem dL_law_323 : decode bL_law.2.1 323 = .ok (.iload 7, 2) := by decide +kernel
theorem dL_law_325 : decode bL_law.2.1 325 = .ok (.iconst 4, 1) := by decide +kernel
theorem dL_law_326 : decode bL_law.2.1 326 = .ok (.ishr, 1) := by decide +kernel
theorem dL_law_327 : decode bL_law.2.1 327 = .ok (.iload_n 3, 1) := by decide +kernel
theorem dL_law_328 : decode bL_law.2.1 328 = .ok (.irem, 1) := by decide +kernel
theorem dL_law_329 : decode bL_law.2.1 329 = .ok (.istore 8, 2) := by decide +kernel
theorem dL_law_331 : decode bL_law.2.1 331 = .ok (.aload_n 1, 1) := by decide +kernel
theorem dL_law_332 : decode bL_law.2.1 332 = .ok (.iload 8, 2) := by decide +kernel
theorem dL_law_334 : decode bL_law.2.1 334 = .ok (.bipush 6, 2) := by decide +kernel
theorem dL_law_336 : decode bL_law.2.1 336 = .ok (.invokestatic 101, 3) := by decide +kernel
theorem dL_law_339 : decode bL_law.2.1 339 = .ok (.ifCond .ne 7, 3) := by decide +kernel
theorem dL_law_342 : decode bL_law.2.1 342 = .ok (.iconst 1, 1) := by decide +kernel
theorem dL_law_343 : decode bL_law.2.1 343 = .ok (.goto 4, 3) := by decide +kernel
theorem dL_law_346 : decode bL_law.2.1 346 = .ok (.iconst 0, 1) := by decide +kernel
theorem dL_law_347 : decode bL_law.2.1 347 = .ok (.istore 9, 2) := by decide +kernel
theorem dL_law_349 : decode bL_law.2.1 349 = .ok (.aload_n 1, 1) := by decide +kernel
theorem dL_law_350 : decode bL_law.2.1 350 = .ok (.bipush 6, 2) := by decide +kernel
theorem dL_law_352 : decode bL_law.2.1 352 = .ok (.invokevirtual 34, 3) := by decide +kernel
theorem dL_law_355 : decode bL_law.2.1 355 = .ok (.istore 10, 2) := by decide +kernel
theorem dL_law_357 : decode bL_law.2.1 357 = .ok (.aload_n 1, 1) := by decide +kernel
theorem dL_law_358 : decode bL_law.2.1 358 = .ok (.iload 8, 2) := by decide +kernel
theorem dL_law_360 : decode bL_law.2.1 360 = .ok (.iload 9, 2) := by decide +kernel
theorem dL_law_362 : decode bL_law.2.1 362 = .ok (.ifCond .ne 7, 3) := by decide +kernel
theorem dL_law_365 : decode bL_law.2.1 365 = .ok (.iconst 1, 1) := by decide +kernel
theorem dL_law_366 : decode bL_law.2.1 366 = .ok (.goto 4, 3) := by decide +kernel
theorem dL_law_369 : decode bL_law.2.1 369 = .ok (.iconst 0, 1) := by decide +kernel
theorem dL_law_370 : decode bL_law.2.1 370 = .ok (.invokevirtual 104, 3) := by decide +kernel
theorem dL_law_373 : decode bL_law.2.1 373 = .ok (.ifCond .ne 36, 3) := by decide +kernel
theorem dL_law_376 : decode bL_law.2.1 376 = .ok (.aload_n 1, 1) := by decide +kernel
theorem dL_law_377 : decode bL_law.2.1 377 = .ok (.iload 8, 2) := by decide +kernel
theorem dL_law_379 : decode bL_law.2.1 379 = .ok (.iload 9, 2) := by decide +kernel
theorem dL_law_381 : decode bL_law.2.1 381 = .ok (.invokevirtual 104, 3) := by decide +kernel
theorem dL_law_384 : decode bL_law.2.1 384 = .ok (.ifCond .eq 25, 3) := by decide +kernel
theorem dL_law_387 : decode bL_law.2.1 387 = .ok (.aload_n 1, 1) := by decide +kernel
theorem dL_law_388 : decode bL_law.2.1 388 = .ok (.bipush 6, 2) := by decide +kernel
theorem dL_law_390 : decode bL_law.2.1 390 = .ok (.invokevirtual 34, 3) := by decide +kernel
theorem dL_law_393 : decode bL_law.2.1 393 = .ok (.iload 10, 2) := by decide +kernel
theorem dL_law_395 : decode bL_law.2.1 395 = .ok (.iload 9, 2) := by decide +kernel
theorem dL_law_397 : decode bL_law.2.1 397 = .ok (.ifCond .eq 7, 3) := by decide +kernel
theorem dL_law_400 : decode bL_law.2.1 400 = .ok (.iconst 1, 1) := by decide +kernel
theorem dL_law_401 : decode bL_law.2.1 401 = .ok (.goto 4, 3) := by decide +kernel
theorem dL_law_404 : decode bL_law.2.1 404 = .ok (.iconst (-1), 1) := by decide +kernel
theorem dL_law_405 : decode bL_law.2.1 405 = .ok (.iadd, 1) := by decide +kernel
theorem dL_law_406 : decode bL_law.2.1 406 = .ok (.if_icmp .eq 220, 3) := by decide +kernel
theorem dL_law_409 : decode bL_law.2.1 409 = .ok (.iconst 0, 1) := by decide +kernel
theorem dL_law_410 : decode bL_law.2.1 410 = .ok (.ireturn, 1) := by decide +kernel
theorem dL_law_411 : decode bL_law.2.1 411 = .ok (.aload_n 1, 1) := by decide +kernel
theorem dL_law_412 : decode bL_law.2.1 412 = .ok (.iload 7, 2) := by decide +kernel
theorem dL_law_414 : decode bL_law.2.1 414 = .ok (.iconst 4, 1) := by decide +kernel
theorem dL_law_415 : decode bL_law.2.1 415 = .ok (.ishr, 1) := by decide +kernel
theorem dL_law_416 : decode bL_law.2.1 416 = .ok (.iconst 4, 1) := by decide +kernel
theorem dL_law_417 : decode bL_law.2.1 417 = .ok (.irem, 1) := by decide +kernel
theorem dL_law_418 : decode bL_law.2.1 418 = .ok (.iconst 0, 1) := by decide +kernel
theorem dL_law_419 : decode bL_law.2.1 419 = .ok (.iload 7, 2) := by decide +kernel
theorem dL_law_421 : decode bL_law.2.1 421 = .ok (.bipush 8, 2) := by decide +kernel
theorem dL_law_423 : decode bL_law.2.1 423 = .ok (.ishr, 1) := by decide +kernel
theorem dL_law_424 : decode bL_law.2.1 424 = .ok (.iconst 4, 1) := by decide +kernel
theorem dL_law_425 : decode bL_law.2.1 425 = .ok (.irem, 1) := by decide +kernel
theorem dL_law_426 : decode bL_law.2.1 426 = .ok (.invokevirtual 108, 3) := by decide +kernel
theorem dL_law_429 : decode bL_law.2.1 429 = .ok (.pop, 1) := by decide +kernel
theorem dL_law_430 : decode bL_law.2.1 430 = .ok (.aload_n 1, 1) := by decide +kernel
theorem dL_law_431 : decode bL_law.2.1 431 = .ok (.iload 7, 2) := by decide +kernel
theorem dL_law_433 : decode bL_law.2.1 433 = .ok (.iconst 4, 1) := by decide +kernel
theorem dL_law_434 : decode bL_law.2.1 434 = .ok (.ishr, 1) := by decide +kernel
theorem dL_law_435 : decode bL_law.2.1 435 = .ok (.iconst 4, 1) := by decide +kernel
theorem dL_law_436 : decode bL_law.2.1 436 = .ok (.irem, 1) := by decide +kernel
theorem dL_law_437 : decode bL_law.2.1 437 = .ok (.iconst 1, 1) := by decide +kernel
theorem dL_law_438 : decode bL_law.2.1 438 = .ok (.iload 7, 2) := by decide +kernel
theorem dL_law_440 : decode bL_law.2.1 440 = .ok (.bipush 10, 2) := by decide +kernel
theorem dL_law_442 : decode bL_law.2.1 442 = .ok (.ishr, 1) := by decide +kernel
theorem dL_law_443 : decode bL_law.2.1 443 = .ok (.bipush 101, 2) := by decide +kernel
theorem dL_law_445 : decode bL_law.2.1 445 = .ok (.irem, 1) := by decide +kernel
theorem dL_law_446 : decode bL_law.2.1 446 = .ok (.invokevirtual 108, 3) := by decide +kernel
theorem dL_law_449 : decode bL_law.2.1 449 = .ok (.pop, 1) := by decide +kernel
theorem dL_law_450 : decode bL_law.2.1 450 = .ok (.goto 176, 3) := by decide +kernel
theorem dL_law_453 : decode bL_law.2.1 453 = .ok (.aload_n 1, 1) := by decide +kernel
theorem dL_law_454 : decode bL_law.2.1 454 = .ok (.iload 7, 2) := by decide +kernel
theorem dL_law_456 : decode bL_law.2.1 456 = .ok (.i2l, 1) := by decide +kernel
theorem dL_law_457 : decode bL_law.2.1 457 = .ok (.invokevirtual 112, 3) := by decide +kernel
theorem dL_law_460 : decode bL_law.2.1 460 = .ok (.istore 8, 2) := by decide +kernel
theorem dL_law_462 : decode bL_law.2.1 462 = .ok (.iinc 4 1, 3) := by decide +kernel
theorem dL_law_465 : decode bL_law.2.1 465 = .ok (.iload 8, 2) := by decide +kernel
theorem dL_law_467 : decode bL_law.2.1 467 = .ok (.ifCond .lt 76, 3) := by decide +kernel
theorem dL_law_470 : decode bL_law.2.1 470 = .ok (.iload 8, 2) := by decide +kernel
theorem dL_law_472 : decode bL_law.2.1 472 = .ok (.iconst 2, 1) := by decide +kernel
theorem dL_law_473 : decode bL_law.2.1 473 = .ok (.if_icmp .gt 70, 3) := by decide +kernel
theorem dL_law_476 : decode bL_law.2.1 476 = .ok (.aload_n 1, 1) := by decide +kernel
theorem dL_law_477 : decode bL_law.2.1 477 = .ok (.iconst 0, 1) := by decide +kernel
theorem dL_law_478 : decode bL_law.2.1 478 = .ok (.invokevirtual 116, 3) := by decide +kernel
theorem dL_law_481 : decode bL_law.2.1 481 = .ok (.sipush 200, 3) := by decide +kernel
theorem dL_law_484 : decode bL_law.2.1 484 = .ok (.if_icmp .gt 59, 3) := by decide +kernel
theorem dL_law_487 : decode bL_law.2.1 487 = .ok (.aload_n 1, 1) := by decide +kernel
theorem dL_law_488 : decode bL_law.2.1 488 = .ok (.iconst 2, 1) := by decide +kernel
theorem dL_law_489 : decode bL_law.2.1 489 = .ok (.invokevirtual 116, 3) := by decide +kernel
theorem dL_law_492 : decode bL_law.2.1 492 = .ok (.aload_n 1, 1) := by decide +kernel
theorem dL_law_493 : decode bL_law.2.1 493 = .ok (.iconst 1, 1) := by decide +kernel
theorem dL_law_494 : decode bL_law.2.1 494 = .ok (.invokevirtual 116, 3) := by decide +kernel
theorem dL_law_497 : decode bL_law.2.1 497 = .ok (.if_icmp .gt 46, 3) := by decide +kernel
theorem dL_law_500 : decode bL_law.2.1 500 = .ok (.aload_n 1, 1) := by decide +kernel
theorem dL_law_501 : decode bL_law.2.1 501 = .ok (.iconst 4, 1) := by decide +kernel
theorem dL_law_502 : decode bL_law.2.1 502 = .ok (.invokevirtual 116, 3) := by decide +kernel
theorem dL_law_505 : decode bL_law.2.1 505 = .ok (.aload_n 1, 1) := by decide +kernel
theorem dL_law_506 : decode bL_law.2.1 506 = .ok (.iconst 1, 1) := by decide +kernel
theorem dL_law_507 : decode bL_law.2.1 507 = .ok (.invokevirtual 116, 3) := by decide +kernel
theorem dL_law_510 : decode bL_law.2.1 510 = .ok (.aload_n 1, 1) := by decide +kernel
theorem dL_law_511 : decode bL_law.2.1 511 = .ok (.iconst 2, 1) := by decide +kernel
theorem dL_law_512 : decode bL_law.2.1 512 = .ok (.invokevirtual 116, 3) := by decide +kernel
theorem dL_law_515 : decode bL_law.2.1 515 = .ok (.isub, 1) := by decide +kernel
theorem dL_law_516 : decode bL_law.2.1 516 = .ok (.if_icmp .gt 27, 3) := by decide +kernel
theorem dL_law_519 : decode bL_law.2.1 519 = .ok (.iload 8, 2) := by decide +kernel
theorem dL_law_521 : decode bL_law.2.1 521 = .ok (.ifCond .ne 105, 3) := by decide +kernel
theorem dL_law_524 : decode bL_law.2.1 524 = .ok (.aload_n 1, 1) := by decide +kernel
theorem dL_law_525 : decode bL_law.2.1 525 = .ok (.iconst 4, 1) := by decide +kernel
theorem dL_law_526 : decode bL_law.2.1 526 = .ok (.invokevirtual 116, 3) := by decide +kernel
theorem dL_law_529 : decode bL_law.2.1 529 = .ok (.aload_n 1, 1) := by decide +kernel
theorem dL_law_530 : decode bL_law.2.1 530 = .ok (.iconst 1, 1) := by decide +kernel
theorem dL_law_531 : decode bL_law.2.1 531 = .ok (.invokevirtual 116, 3) := by decide +kernel
theorem dL_law_534 : decode bL_law.2.1 534 = .ok (.aload_n 1, 1) := by decide +kernel
theorem dL_law_535 : decode bL_law.2.1 535 = .ok (.iconst 2, 1) := by decide +kernel
theorem dL_law_536 : decode bL_law.2.1 536 = .ok (.invokevirtual 116, 3) := by decide +kernel
theorem dL_law_539 : decode bL_law.2.1 539 = .ok (.isub, 1) := by decide +kernel
theorem dL_law_540 : decode bL_law.2.1 540 = .ok (.if_icmp .eq 86, 3) := by decide +kernel
theorem dL_law_543 : decode bL_law.2.1 543 = .ok (.iconst 0, 1) := by decide +kernel
theorem dL_law_544 : decode bL_law.2.1 544 = .ok (.ireturn, 1) := by decide +kernel
theorem dL_law_545 : decode bL_law.2.1 545 = .ok (.iload 7, 2) := by decide +kernel
theorem dL_law_547 : decode bL_law.2.1 547 = .ok (.bipush 16, 2) := by decide +kernel
theorem dL_law_549 : decode bL_law.2.1 549 = .ok (.iand, 1) := by decide +kernel
theorem dL_law_550 : decode bL_law.2.1 550 = .ok (.ifCond .ne 46, 3) := by decide +kernel
theorem dL_law_553 : decode bL_law.2.1 553 = .ok (.iload 7, 2) := by decide +kernel
theorem dL_law_555 : decode bL_law.2.1 555 = .ok (.iconst 5, 1) := by decide +kernel
theorem dL_law_556 : decode bL_law.2.1 556 = .ok (.ishr, 1) := by decide +kernel
theorem dL_law_557 : decode bL_law.2.1 557 = .ok (.bipush 25, 2) := by decide +kernel
theorem dL_law_559 : decode bL_law.2.1 559 = .ok (.irem, 1) := by decide +kernel
theorem dL_law_560 : decode bL_law.2.1 560 = .ok (.istore 8, 2) := by decide +kernel
theorem dL_law_562 : decode bL_law.2.1 562 = .ok (.aload_n 1, 1) := by decide +kernel
theorem dL_law_563 : decode bL_law.2.1 563 = .ok (.iload 8, 2) := by decide +kernel
theorem dL_law_565 : decode bL_law.2.1 565 = .ok (.invokevirtual 119, 3) := by decide +kernel
theorem dL_law_568 : decode bL_law.2.1 568 = .ok (.istore 9, 2) := by decide +kernel
theorem dL_law_570 : decode bL_law.2.1 570 = .ok (.iload 9, 2) := by decide +kernel
theorem dL_law_572 : decode bL_law.2.1 572 = .ok (.iload 8, 2) := by decide +kernel
theorem dL_law_574 : decode bL_law.2.1 574 = .ok (.if_icmp .gt 20, 3) := by decide +kernel
theorem dL_law_577 : decode bL_law.2.1 577 = .ok (.iload 9, 2) := by decide +kernel
theorem dL_law_579 : decode bL_law.2.1 579 = .ok (.iload_n 3, 1) := by decide +kernel
theorem dL_law_580 : decode bL_law.2.1 580 = .ok (.if_icmp .gt 14, 3) := by decide +kernel
theorem dL_law_583 : decode bL_law.2.1 583 = .ok (.iload 9, 2) := by decide +kernel
theorem dL_law_585 : decode bL_law.2.1 585 = .ok (.aload_n 1, 1) := by decide +kernel
theorem dL_law_586 : decode bL_law.2.1 586 = .ok (.bipush 6, 2) := by decide +kernel
theorem dL_law_588 : decode bL_law.2.1 588 = .ok (.invokevirtual 34, 3) := by decide +kernel
theorem dL_law_591 : decode bL_law.2.1 591 = .ok (.if_icmp .eq 35, 3) := by decide +kernel
theorem dL_law_594 : decode bL_law.2.1 594 = .ok (.iconst 0, 1) := by decide +kernel
theorem dL_law_595 : decode bL_law.2.1 595 = .ok (.ireturn, 1) := by decide +kernel
theorem dL_law_596 : decode bL_law.2.1 596 = .ok (.aload_n 1, 1) := by decide +kernel
theorem dL_law_597 : decode bL_law.2.1 597 = .ok (.invokevirtual 122, 3) := by decide +kernel
theorem dL_law_600 : decode bL_law.2.1 600 = .ok (.istore 5, 2) := by decide +kernel
theorem dL_law_602 : decode bL_law.2.1 602 = .ok (.iload 5, 2) := by decide +kernel
theorem dL_law_604 : decode bL_law.2.1 604 = .ok (.aload_n 1, 1) := by decide +kernel
theorem dL_law_605 : decode bL_law.2.1 605 = .ok (.bipush 6, 2) := by decide +kernel
theorem dL_law_607 : decode bL_law.2.1 607 = .ok (.invokevirtual 34, 3) := by decide +kernel
theorem dL_law_610 : decode bL_law.2.1 610 = .ok (.if_icmp .eq 16, 3) := by decide +kernel
theorem dL_law_613 : decode bL_law.2.1 613 = .ok (.iconst 0, 1) := by decide +kernel
theorem dL_law_614 : decode bL_law.2.1 614 = .ok (.ireturn, 1) := by decide +kernel
theorem dL_law_615 : decode bL_law.2.1 615 = .ok (.aload_n 1, 1) := by decide +kernel
theorem dL_law_616 : decode bL_law.2.1 616 = .ok (.invokevirtual 125, 3) := by decide +kernel
theorem dL_law_619 : decode bL_law.2.1 619 = .ok (.iload 5, 2) := by decide +kernel
theorem dL_law_621 : decode bL_law.2.1 621 = .ok (.if_icmp .eq 5, 3) := by decide +kernel
theorem dL_law_624 : decode bL_law.2.1 624 = .ok (.iconst 0, 1) := by decide +kernel
theorem dL_law_625 : decode bL_law.2.1 625 = .ok (.ireturn, 1) := by decide +kernel
theorem dL_law_626 : decode bL_law.2.1 626 = .ok (.aload_n 1, 1) := by decide +kernel
theorem dL_law_627 : decode bL_law.2.1 627 = .ok (.iconst 1, 1) := by decide +kernel
theorem dL_law_628 : decode bL_law.2.1 628 = .ok (.invokevirtual 34, 3) := by decide +kernel
theorem dL_law_631 : decode bL_law.2.1 631 = .ok (.iload_n 3, 1) := by decide +kernel
theorem dL_law_632 : decode bL_law.2.1 632 = .ok (.if_icmp .ne 22, 3) := by decide +kernel
theorem dL_law_635 : decode bL_law.2.1 635 = .ok (.aload_n 1, 1) := by decide +kernel
theorem dL_law_636 : decode bL_law.2.1 636 = .ok (.iconst 2, 1) := by decide +kernel
theorem dL_law_637 : decode bL_law.2.1 637 = .ok (.invokevirtual 34, 3) := by decide +kernel
theorem dL_law_640 : decode bL_law.2.1 640 = .ok (.iload_n 2, 1) := by decide +kernel
theorem dL_law_641 : decode bL_law.2.1 641 = .ok (.if_icmp .ne 13, 3) := by decide +kernel
theorem dL_law_644 : decode bL_law.2.1 644 = .ok (.aload_n 1, 1) := by decide +kernel
theorem dL_law_645 : decode bL_law.2.1 645 = .ok (.iconst 5, 1) := by decide +kernel
theorem dL_law_646 : decode bL_law.2.1 646 = .ok (.invokevirtual 34, 3) := by decide +kernel
theorem dL_law_649 : decode bL_law.2.1 649 = .ok (.iload 4, 2) := by decide +kernel
theorem dL_law_651 : decode bL_law.2.1 651 = .ok (.if_icmp .eq 5, 3) := by decide +kernel
theorem dL_law_654 : decode bL_law.2.1 654 = .ok (.iconst 0, 1) := by decide +kernel
theorem dL_law_655 : decode bL_law.2.1 655 = .ok (.ireturn, 1) := by decide +kernel
theorem dL_law_656 : decode bL_law.2.1 656 = .ok (.iconst 1, 1) := by decide +kernel
theorem dL_law_657 : decode bL_law.2.1 657 = .ok (.iload 7, 2) := by decide +kernel
theorem dL_law_659 : decode bL_law.2.1 659 = .ok (.bipush 6, 2) := by decide +kernel
theorem dL_law_661 : decode bL_law.2.1 661 = .ok (.ishr, 1) := by decide +kernel
theorem dL_law_662 : decode bL_law.2.1 662 = .ok (.sipush 200, 3) := by decide +kernel
theorem dL_law_665 : decode bL_law.2.1 665 = .ok (.irem, 1) := by decide +kernel
theorem dL_law_666 : decode bL_law.2.1 666 = .ok (.iadd, 1) := by decide +kernel
theorem dL_law_667 : decode bL_law.2.1 667 = .ok (.istore 8, 2) := by decide +kernel
theorem dL_law_669 : decode bL_law.2.1 669 = .ok (.aload_n 1, 1) := by decide +kernel
theorem dL_law_670 : decode bL_law.2.1 670 = .ok (.iload 8, 2) := by decide +kernel
theorem dL_law_672 : decode bL_law.2.1 672 = .ok (.invokevirtual 128, 3) := by decide +kernel
theorem dL_law_675 : decode bL_law.2.1 675 = .ok (.istore 9, 2) := by decide +kernel
theorem dL_law_677 : decode bL_law.2.1 677 = .ok (.lconst 0, 1) := by decide +kernel
theorem dL_law_678 : decode bL_law.2.1 678 = .ok (.lstore 10, 2) := by decide +kernel
theorem dL_law_680 : decode bL_law.2.1 680 = .ok (.iconst 0, 1) := by decide +kernel
theorem dL_law_681 : decode bL_law.2.1 681 = .ok (.istore 12, 2) := by decide +kernel
theorem dL_law_683 : decode bL_law.2.1 683 = .ok (.iload 12, 2) := by decide +kernel
theorem dL_law_685 : decode bL_law.2.1 685 = .ok (.iload_n 3, 1) := by decide +kernel
theorem dL_law_686 : decode bL_law.2.1 686 = .ok (.if_icmp .ge 129, 3) := by decide +kernel
theorem dL_law_689 : decode bL_law.2.1 689 = .ok (.lload 10, 2) := by decide +kernel
theorem dL_law_691 : decode bL_law.2.1 691 = .ok (.aload_n 1, 1) := by decide +kernel
theorem dL_law_692 : decode bL_law.2.1 692 = .ok (.iload 12, 2) := by decide +kernel
theorem dL_law_694 : decode bL_law.2.1 694 = .ok (.iload 8, 2) := by decide +kernel
theorem dL_law_696 : decode bL_law.2.1 696 = .ok (.invokevirtual 131, 3) := by decide +kernel
theorem dL_law_699 : decode bL_law.2.1 699 = .ok (.i2l, 1) := by decide +kernel
theorem dL_law_700 : decode bL_law.2.1 700 = .ok (.ladd, 1) := by decide +kernel
theorem dL_law_701 : decode bL_law.2.1 701 = .ok (.lstore 10, 2) := by decide +kernel
theorem dL_law_703 : decode bL_law.2.1 703 = .ok (.aload_n 1, 1) := by decide +kernel
theorem dL_law_704 : decode bL_law.2.1 704 = .ok (.iload 12, 2) := by decide +kernel
theorem dL_law_706 : decode bL_law.2.1 706 = .ok (.invokevirtual 134, 3) := by decide +kernel
theorem dL_law_709 : decode bL_law.2.1 709 = .ok (.istore 13, 2) := by decide +kernel
theorem dL_law_711 : decode bL_law.2.1 711 = .ok (.iload 13, 2) := by decide +kernel
theorem dL_law_713 : decode bL_law.2.1 713 = .ok (.iconst (-1), 1) := by decide +kernel
theorem dL_law_714 : decode bL_law.2.1 714 = .ok (.if_icmp .eq 44, 3) := by decide +kernel
theorem dL_law_717 : decode bL_law.2.1 717 = .ok (.iload 13, 2) := by decide +kernel
theorem dL_law_719 : decode bL_law.2.1 719 = .ok (.iload 12, 2) := by decide +kernel
theorem dL_law_721 : decode bL_law.2.1 721 = .ok (.if_icmp .eq 60, 3) := by decide +kernel
theorem dL_law_724 : decode bL_law.2.1 724 = .ok (.aload_n 1, 1) := by decide +kernel
theorem dL_law_725 : decode bL_law.2.1 725 = .ok (.iload 13, 2) := by decide +kernel
theorem dL_law_727 : decode bL_law.2.1 727 = .ok (.iconst 0, 1) := by decide +kernel
theorem dL_law_728 : decode bL_law.2.1 728 = .ok (.invokestatic 101, 3) := by decide +kernel
theorem dL_law_731 : decode bL_law.2.1 731 = .ok (.aload_n 1, 1) := by decide +kernel
theorem dL_law_732 : decode bL_law.2.1 732 = .ok (.iload 12, 2) := by decide +kernel
theorem dL_law_734 : decode bL_law.2.1 734 = .ok (.iconst 0, 1) := by decide +kernel
theorem dL_law_735 : decode bL_law.2.1 735 = .ok (.invokestatic 101, 3) := by decide +kernel
theorem dL_law_738 : decode bL_law.2.1 738 = .ok (.if_icmp .ne 43, 3) := by decide +kernel
theorem dL_law_741 : decode bL_law.2.1 741 = .ok (.aload_n 1, 1) := by decide +kernel
theorem dL_law_742 : decode bL_law.2.1 742 = .ok (.iload 13, 2) := by decide +kernel
theorem dL_law_744 : decode bL_law.2.1 744 = .ok (.iconst 3, 1) := by decide +kernel
theorem dL_law_745 : decode bL_law.2.1 745 = .ok (.invokestatic 101, 3) := by decide +kernel
theorem dL_law_748 : decode bL_law.2.1 748 = .ok (.aload_n 1, 1) := by decide +kernel
theorem dL_law_749 : decode bL_law.2.1 749 = .ok (.iload 12, 2) := by decide +kernel
theorem dL_law_751 : decode bL_law.2.1 751 = .ok (.iconst 3, 1) := by decide +kernel
theorem dL_law_752 : decode bL_law.2.1 752 = .ok (.invokestatic 101, 3) := by decide +kernel
theorem dL_law_755 : decode bL_law.2.1 755 = .ok (.if_icmp .ne 26, 3) := by decide +kernel
theorem dL_law_758 : decode bL_law.2.1 758 = .ok (.aload_n 1, 1) := by decide +kernel
theorem dL_law_759 : decode bL_law.2.1 759 = .ok (.invokevirtual 137, 3) := by decide +kernel
theorem dL_law_762 : decode bL_law.2.1 762 = .ok (.iload 12, 2) := by decide +kernel
theorem dL_law_764 : decode bL_law.2.1 764 = .ok (.ishr, 1) := by decide +kernel
theorem dL_law_765 : decode bL_law.2.1 765 = .ok (.iconst 1, 1) := by decide +kernel
theorem dL_law_766 : decode bL_law.2.1 766 = .ok (.iand, 1) := by decide +kernel
theorem dL_law_767 : decode bL_law.2.1 767 = .ok (.iload 13, 2) := by decide +kernel
theorem dL_law_769 : decode bL_law.2.1 769 = .ok (.iconst (-1), 1) := by decide +kernel
theorem dL_law_770 : decode bL_law.2.1 770 = .ok (.if_icmp .ne 7, 3) := by decide +kernel
theorem dL_law_773 : decode bL_law.2.1 773 = .ok (.iconst 1, 1) := by decide +kernel
theorem dL_law_774 : decode bL_law.2.1 774 = .ok (.goto 4, 3) := by decide +kernel
theorem dL_law_777 : decode bL_law.2.1 777 = .ok (.iconst 0, 1) := by decide +kernel
theorem dL_law_778 : decode bL_law.2.1 778 = .ok (.if_icmp .eq 5, 3) := by decide +kernel
theorem dL_law_781 : decode bL_law.2.1 781 = .ok (.iconst 0, 1) := by decide +kernel
theorem dL_law_782 : decode bL_law.2.1 782 = .ok (.ireturn, 1) := by decide +kernel
theorem dL_law_783 : decode bL_law.2.1 783 = .ok (.aload_n 1, 1) := by decide +kernel
theorem dL_law_784 : decode bL_law.2.1 784 = .ok (.iload 12, 2) := by decide +kernel
theorem dL_law_786 : decode bL_law.2.1 786 = .ok (.bipush 7, 2) := by decide +kernel
theorem dL_law_788 : decode bL_law.2.1 788 = .ok (.invokestatic 101, 3) := by decide +kernel
theorem dL_law_791 : decode bL_law.2.1 791 = .ok (.ifCond .lt 16, 3) := by decide +kernel
theorem dL_law_794 : decode bL_law.2.1 794 = .ok (.aload_n 1, 1) := by decide +kernel
theorem dL_law_795 : decode bL_law.2.1 795 = .ok (.iload 12, 2) := by decide +kernel
theorem dL_law_797 : decode bL_law.2.1 797 = .ok (.bipush 7, 2) := by decide +kernel
theorem dL_law_799 : decode bL_law.2.1 799 = .ok (.invokestatic 101, 3) := by decide +kernel
theorem dL_law_802 : decode bL_law.2.1 802 = .ok (.bipush 100, 2) := by decide +kernel
theorem dL_law_804 : decode bL_law.2.1 804 = .ok (.if_icmp .le 5, 3) := by decide +kernel
theorem dL_law_807 : decode bL_law.2.1 807 = .ok (.iconst 0, 1) := by decide +kernel
theorem dL_law_808 : decode bL_law.2.1 808 = .ok (.ireturn, 1) := by decide +kernel
theorem dL_law_809 : decode bL_law.2.1 809 = .ok (.iinc 12 1, 3) := by decide +kernel
theorem dL_law_812 : decode bL_law.2.1 812 = .ok (.goto (-129), 3) := by decide +kernel
theorem dL_law_815 : decode bL_law.2.1 815 = .ok (.iload 9, 2) := by decide +kernel
theorem dL_law_817 : decode bL_law.2.1 817 = .ok (.ifCond .lt 47, 3) := by decide +kernel
theorem dL_law_820 : decode bL_law.2.1 820 = .ok (.iload 9, 2) := by decide +kernel
theorem dL_law_822 : decode bL_law.2.1 822 = .ok (.i2l, 1) := by decide +kernel
theorem dL_law_823 : decode bL_law.2.1 823 = .ok (.lload 10, 2) := by decide +kernel
theorem dL_law_825 : decode bL_law.2.1 825 = .ok (.ladd, 1) := by decide +kernel
theorem dL_law_826 : decode bL_law.2.1 826 = .ok (.ldc2_w 140, 3) := by decide +kernel
theorem dL_law_829 : decode bL_law.2.1 829 = .ok (.lcmp, 1) := by decide +kernel
theorem dL_law_830 : decode bL_law.2.1 830 = .ok (.ifCond .gt 34, 3) := by decide +kernel
theorem dL_law_833 : decode bL_law.2.1 833 = .ok (.iload 8, 2) := by decide +kernel
theorem dL_law_835 : decode bL_law.2.1 835 = .ok (.sipush 200, 3) := by decide +kernel
theorem dL_law_838 : decode bL_law.2.1 838 = .ok (.if_icmp .ge 16, 3) := by decide +kernel
theorem dL_law_841 : decode bL_law.2.1 841 = .ok (.aload_n 1, 1) := by decide +kernel
theorem dL_law_842 : decode bL_law.2.1 842 = .ok (.iload 8, 2) := by decide +kernel
theorem dL_law_844 : decode bL_law.2.1 844 = .ok (.iconst 1, 1) := by decide +kernel
theorem dL_law_845 : decode bL_law.2.1 845 = .ok (.iadd, 1) := by decide +kernel
theorem dL_law_846 : decode bL_law.2.1 846 = .ok (.invokevirtual 128, 3) := by decide +kernel
theorem dL_law_849 : decode bL_law.2.1 849 = .ok (.iload 9, 2) := by decide +kernel
theorem dL_law_851 : decode bL_law.2.1 851 = .ok (.if_icmp .lt 13, 3) := by decide +kernel
theorem dL_law_854 : decode bL_law.2.1 854 = .ok (.aload_n 1, 1) := by decide +kernel
theorem dL_law_855 : decode bL_law.2.1 855 = .ok (.iload 8, 2) := by decide +kernel
theorem dL_law_857 : decode bL_law.2.1 857 = .ok (.iconst 1, 1) := by decide +kernel
theorem dL_law_858 : decode bL_law.2.1 858 = .ok (.invokevirtual 142, 3) := by decide +kernel
theorem dL_law_861 : decode bL_law.2.1 861 = .ok (.ifCond .ge 5, 3) := by decide +kernel
theorem dL_law_864 : decode bL_law.2.1 864 = .ok (.iconst 0, 1) := by decide +kernel
theorem dL_law_865 : decode bL_law.2.1 865 = .ok (.ireturn, 1) := by decide +kernel
theorem dL_law_866 : decode bL_law.2.1 866 = .ok (.iload 8, 2) := by decide +kernel
theorem dL_law_868 : decode bL_law.2.1 868 = .ok (.iload_n 3, 1) := by decide +kernel
theorem dL_law_869 : decode bL_law.2.1 869 = .ok (.if_icmp .lt 13, 3) := by decide +kernel
theorem dL_law_872 : decode bL_law.2.1 872 = .ok (.aload_n 1, 1) := by decide +kernel
theorem dL_law_873 : decode bL_law.2.1 873 = .ok (.iconst 0, 1) := by decide +kernel
theorem dL_law_874 : decode bL_law.2.1 874 = .ok (.iconst (-1), 1) := by decide +kernel
theorem dL_law_875 : decode bL_law.2.1 875 = .ok (.invokevirtual 145, 3) := by decide +kernel
theorem dL_law_878 : decode bL_law.2.1 878 = .ok (.iload_n 3, 1) := by decide +kernel
theorem dL_law_879 : decode bL_law.2.1 879 = .ok (.if_icmp .ne 46, 3) := by decide +kernel
theorem dL_law_882 : decode bL_law.2.1 882 = .ok (.aload_n 1, 1) := by decide +kernel
theorem dL_law_883 : decode bL_law.2.1 883 = .ok (.iconst 0, 1) := by decide +kernel
theorem dL_law_884 : decode bL_law.2.1 884 = .ok (.iconst 0, 1) := by decide +kernel
theorem dL_law_885 : decode bL_law.2.1 885 = .ok (.invokevirtual 148, 3) := by decide +kernel
theorem dL_law_888 : decode bL_law.2.1 888 = .ok (.ifCond .ne 37, 3) := by decide +kernel
theorem dL_law_891 : decode bL_law.2.1 891 = .ok (.aload_n 1, 1) := by decide +kernel
theorem dL_law_892 : decode bL_law.2.1 892 = .ok (.iconst 0, 1) := by decide +kernel
theorem dL_law_893 : decode bL_law.2.1 893 = .ok (.invokevirtual 151, 3) := by decide +kernel
theorem dL_law_896 : decode bL_law.2.1 896 = .ok (.iconst 1, 1) := by decide +kernel
theorem dL_law_897 : decode bL_law.2.1 897 = .ok (.if_icmp .ne 28, 3) := by decide +kernel
theorem dL_law_900 : decode bL_law.2.1 900 = .ok (.aload_n 1, 1) := by decide +kernel
theorem dL_law_901 : decode bL_law.2.1 901 = .ok (.iconst 0, 1) := by decide +kernel
theorem dL_law_902 : decode bL_law.2.1 902 = .ok (.iconst 0, 1) := by decide +kernel
theorem dL_law_903 : decode bL_law.2.1 903 = .ok (.invokevirtual 154, 3) := by decide +kernel
theorem dL_law_906 : decode bL_law.2.1 906 = .ok (.iload_n 3, 1) := by decide +kernel
theorem dL_law_907 : decode bL_law.2.1 907 = .ok (.if_icmp .ne 18, 3) := by decide +kernel
theorem dL_law_910 : decode bL_law.2.1 910 = .ok (.aload_n 1, 1) := by decide +kernel
theorem dL_law_911 : decode bL_law.2.1 911 = .ok (.iconst 2, 1) := by decide +kernel
theorem dL_law_912 : decode bL_law.2.1 912 = .ok (.iconst 0, 1) := by decide +kernel
theorem dL_law_913 : decode bL_law.2.1 913 = .ok (.invokevirtual 157, 3) := by decide +kernel
theorem dL_law_916 : decode bL_law.2.1 916 = .ok (.aload_n 1, 1) := by decide +kernel
theorem dL_law_917 : decode bL_law.2.1 917 = .ok (.iconst 2, 1) := by decide +kernel
theorem dL_law_918 : decode bL_law.2.1 918 = .ok (.iconst 0, 1) := by decide +kernel
theorem dL_law_919 : decode bL_law.2.1 919 = .ok (.invokevirtual 154, 3) := by decide +kernel
theorem dL_law_922 : decode bL_law.2.1 922 = .ok (.if_icmp .ge 5, 3) := by decide +kernel
theorem dL_law_925 : decode bL_law.2.1 925 = .ok (.iconst 0, 1) := by decide +kernel
theorem dL_law_926 : decode bL_law.2.1 926 = .ok (.ireturn, 1) := by decide +kernel
theorem dL_law_927 : decode bL_law.2.1 927 = .ok (.iload 7, 2) := by decide +kernel
theorem dL_law_929 : decode bL_law.2.1 929 = .ok (.iconst 3, 1) := by decide +kernel
theorem dL_law_930 : decode bL_law.2.1 930 = .ok (.ishr, 1) := by decide +kernel
theorem dL_law_931 : decode bL_law.2.1 931 = .ok (.iconst 1, 1) := by decide +kernel
theorem dL_law_932 : decode bL_law.2.1 932 = .ok (.iload_n 3, 1) := by decide +kernel
theorem dL_law_933 : decode bL_law.2.1 933 = .ok (.ishl, 1) := by decide +kernel
theorem dL_law_934 : decode bL_law.2.1 934 = .ok (.iconst 1, 1) := by decide +kernel
theorem dL_law_935 : decode bL_law.2.1 935 = .ok (.isub, 1) := by decide +kernel
theorem dL_law_936 : decode bL_law.2.1 936 = .ok (.iand, 1) := by decide +kernel
theorem dL_law_937 : decode bL_law.2.1 937 = .ok (.istore 12, 2) := by decide +kernel
theorem dL_law_939 : decode bL_law.2.1 939 = .ok (.aload_n 1, 1) := by decide +kernel
theorem dL_law_940 : decode bL_law.2.1 940 = .ok (.iload 12, 2) := by decide +kernel
theorem dL_law_942 : decode bL_law.2.1 942 = .ok (.iconst 0, 1) := by decide +kernel
theorem dL_law_943 : decode bL_law.2.1 943 = .ok (.invokevirtual 148, 3) := by decide +kernel
theorem dL_law_946 : decode bL_law.2.1 946 = .ok (.istore 13, 2) := by decide +kernel
theorem dL_law_948 : decode bL_law.2.1 948 = .ok (.iload 13, 2) := by decide +kernel
theorem dL_law_950 : decode bL_law.2.1 950 = .ok (.iconst 1, 1) := by decide +kernel
theorem dL_law_951 : decode bL_law.2.1 951 = .ok (.if_icmp .ne 7, 3) := by decide +kernel
theorem dL_law_954 : decode bL_law.2.1 954 = .ok (.iconst 1, 1) := by decide +kernel
theorem dL_law_955 : decode bL_law.2.1 955 = .ok (.goto 4, 3) := by decide +kernel
theorem dL_law_958 : decode bL_law.2.1 958 = .ok (.iconst 0, 1) := by decide +kernel
theorem dL_law_959 : decode bL_law.2.1 959 = .ok (.aload_n 1, 1) := by decide +kernel
theorem dL_law_960 : decode bL_law.2.1 960 = .ok (.iload 12, 2) := by decide +kernel
theorem dL_law_962 : decode bL_law.2.1 962 = .ok (.iconst 1, 1) := by decide +kernel
theorem dL_law_963 : decode bL_law.2.1 963 = .ok (.invokevirtual 148, 3) := by decide +kernel
theorem dL_law_966 : decode bL_law.2.1 966 = .ok (.iconst (-1), 1) := by decide +kernel
theorem dL_law_967 : decode bL_law.2.1 967 = .ok (.if_icmp .eq 7, 3) := by decide +kernel
theorem dL_law_970 : decode bL_law.2.1 970 = .ok (.iconst 1, 1) := by decide +kernel
theorem dL_law_971 : decode bL_law.2.1 971 = .ok (.goto 4, 3) := by decide +kernel
theorem dL_law_974 : decode bL_law.2.1 974 = .ok (.iconst 0, 1) := by decide +kernel
theorem dL_law_975 : decode bL_law.2.1 975 = .ok (.if_icmp .ne 42, 3) := by decide +kernel
theorem dL_law_978 : decode bL_law.2.1 978 = .ok (.aload_n 1, 1) := by decide +kernel
theorem dL_law_979 : decode bL_law.2.1 979 = .ok (.iload 12, 2) := by decide +kernel
theorem dL_law_981 : decode bL_law.2.1 981 = .ok (.iconst (-1), 1) := by decide +kernel
theorem dL_law_982 : decode bL_law.2.1 982 = .ok (.invokevirtual 145, 3) := by decide +kernel
theorem dL_law_985 : decode bL_law.2.1 985 = .ok (.sipush 200, 3) := by decide +kernel
theorem dL_law_988 : decode bL_law.2.1 988 = .ok (.if_icmp .gt 29, 3) := by decide +kernel
theorem dL_law_991 : decode bL_law.2.1 991 = .ok (.aload_n 1, 1) := by decide +kernel
theorem dL_law_992 : decode bL_law.2.1 992 = .ok (.iconst 1, 1) := by decide +kernel
theorem dL_law_993 : decode bL_law.2.1 993 = .ok (.iconst (-1), 1) := by decide +kernel
theorem dL_law_994 : decode bL_law.2.1 994 = .ok (.invokevirtual 160, 3) := by decide +kernel
theorem dL_law_997 : decode bL_law.2.1 997 = .ok (.iconst 1, 1) := by decide +kernel
theorem dL_law_998 : decode bL_law.2.1 998 = .ok (.if_icmp .lt 19, 3) := by decide +kernel
theorem dL_law_1001 : decode bL_law.2.1 1001 = .ok (.aload_n 1, 1) := by decide +kernel
theorem dL_law_1002 : decode bL_law.2.1 1002 = .ok (.bipush 24, 2) := by decide +kernel
theorem dL_law_1004 : decode bL_law.2.1 1004 = .ok (.iconst (-1), 1) := by decide +kernel
theorem dL_law_1005 : decode bL_law.2.1 1005 = .ok (.invokevirtual 160, 3) := by decide +kernel
theorem dL_law_1008 : decode bL_law.2.1 1008 = .ok (.aload_n 1, 1) := by decide +kernel
theorem dL_law_1009 : decode bL_law.2.1 1009 = .ok (.iconst 1, 1) := by decide +kernel
theorem dL_law_1010 : decode bL_law.2.1 1010 = .ok (.iconst (-1), 1) := by decide +kernel
theorem dL_law_1011 : decode bL_law.2.1 1011 = .ok (.invokevirtual 160, 3) := by decide +kernel
theorem dL_law_1014 : decode bL_law.2.1 1014 = .ok (.if_icmp .ge 5, 3) := by decide +kernel
theorem dL_law_1017 : decode bL_law.2.1 1017 = .ok (.iconst 0, 1) := by decide +kernel
theorem dL_law_1018 : decode bL_law.2.1 1018 = .ok (.ireturn, 1) := by decide +kernel
theorem dL_law_1019 : decode bL_law.2.1 1019 = .ok (.aload_n 1, 1) := by decide +kernel
theorem dL_law_1020 : decode bL_law.2.1 1020 = .ok (.iconst 3, 1) := by decide +kernel
theorem dL_law_1021 : decode bL_law.2.1 1021 = .ok (.iconst 0, 1) := by decide +kernel
theorem dL_law_1022 : decode bL_law.2.1 1022 = .ok (.invokevirtual 163, 3) := by decide +kernel
theorem dL_law_1025 : decode bL_law.2.1 1025 = .ok (.iconst 3, 1) := by decide +kernel
theorem dL_law_1026 : decode bL_law.2.1 1026 = .ok (.if_icmp .gt 12, 3) := by decide +kernel
theorem dL_law_1029 : decode bL_law.2.1 1029 = .ok (.aload_n 1, 1) := by decide +kernel
theorem dL_law_1030 : decode bL_law.2.1 1030 = .ok (.iconst 0, 1) := by decide +kernel
theorem dL_law_1031 : decode bL_law.2.1 1031 = .ok (.invokevirtual 166, 3) := by decide +kernel
theorem dL_law_1034 : decode bL_law.2.1 1034 = .ok (.iload_n 3, 1) := by decide +kernel
theorem dL_law_1035 : decode bL_law.2.1 1035 = .ok (.if_icmp .lt 5, 3) := by decide +kernel
theorem dL_law_1038 : decode bL_law.2.1 1038 = .ok (.iconst 0, 1) := by decide +kernel
theorem dL_law_1039 : decode bL_law.2.1 1039 = .ok (.ireturn, 1) := by decide +kernel
theorem dL_law_1040 : decode bL_law.2.1 1040 = .ok (.iinc 6 1, 3) := by decide +kernel
theorem dL_law_1043 : decode bL_law.2.1 1043 = .ok (.goto (-1022), 3) := by decide +kernel
theorem dL_law_1046 : decode bL_law.2.1 1046 = .ok (.iconst 1, 1) := by decide +kernel
theorem dL_law_1047 : decode bL_law.2.1 1047 = .ok (.ireturn, 1) := by decide +kernel
