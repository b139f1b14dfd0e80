theorem dX12_in_0 : decode bX12_in.2.1 0 = .ok (.iload_n 0, 1) := by decide +kernel
theorem dX12_in_1 : decode bX12_in.2.1 1 = .ok (.iload_n 1, 1) := by decide +kernel
theorem dX12_in_2 : decode bX12_in.2.1 2 = .ok (.if_icmp .lt 12, 3) := by decide +kernel
theorem dX12_in_5 : decode bX12_in.2.1 5 = .ok (.iload_n 0, 1) := by decide +kernel
theorem dX12_in_6 : decode bX12_in.2.1 6 = .ok (.iload_n 2, 1) := by decide +kernel
theorem dX12_in_7 : decode bX12_in.2.1 7 = .ok (.if_icmp .gt 7, 3) := by decide +kernel
theorem dX12_in_10 : decode bX12_in.2.1 10 = .ok (.iconst 1, 1) := by decide +kernel
theorem dX12_in_11 : decode bX12_in.2.1 11 = .ok (.goto 4, 3) := by decide +kernel
theorem dX12_in_14 : decode bX12_in.2.1 14 = .ok (.iconst 0, 1) := by decide +kernel
theorem dX12_in_15 : decode bX12_in.2.1 15 = .ok (.ireturn, 1) := by decide +kernel
theorem dX12_has_0 : decode bX12_has.2.1 0 = .ok (.iload_n 0, 1) := by decide +kernel
theorem dX12_has_1 : decode bX12_has.2.1 1 = .ok (.iload_n 1, 1) := by decide +kernel
theorem dX12_has_2 : decode bX12_has.2.1 2 = .ok (.ishr, 1) := by decide +kernel
theorem dX12_has_3 : decode bX12_has.2.1 3 = .ok (.iconst 1, 1) := by decide +kernel
theorem dX12_has_4 : decode bX12_has.2.1 4 = .ok (.iand, 1) := by decide +kernel
theorem dX12_has_5 : decode bX12_has.2.1 5 = .ok (.iconst 1, 1) := by decide +kernel
theorem dX12_has_6 : decode bX12_has.2.1 6 = .ok (.if_icmp .ne 7, 3) := by decide +kernel
theorem dX12_has_9 : decode bX12_has.2.1 9 = .ok (.iconst 1, 1) := by decide +kernel
theorem dX12_has_10 : decode bX12_has.2.1 10 = .ok (.goto 4, 3) := by decide +kernel
theorem dX12_has_13 : decode bX12_has.2.1 13 = .ok (.iconst 0, 1) := by decide +kernel
theorem dX12_has_14 : decode bX12_has.2.1 14 = .ok (.ireturn, 1) := by decide +kernel
theorem dX12_init_0 : decode bX12_init.2.1 0 = .ok (.aload_n 0, 1) := by decide +kernel
theorem dX12_init_1 : decode bX12_init.2.1 1 = .ok (.invokespecial 3, 3) := by decide +kernel
theorem dX12_init_4 : decode bX12_init.2.1 4 = .ok (.aload_n 0, 1) := by decide +kernel
theorem dX12_init_5 : decode bX12_init.2.1 5 = .ok (.sipush 160, 3) := by decide +kernel
theorem dX12_init_8 : decode bX12_init.2.1 8 = .ok (.newarray .int, 2) := by decide +kernel
theorem dX12_init_10 : decode bX12_init.2.1 10 = .ok (.putfield 9, 3) := by decide +kernel
theorem dX12_init_13 : decode bX12_init.2.1 13 = .ok (.aload_n 0, 1) := by decide +kernel
theorem dX12_init_14 : decode bX12_init.2.1 14 = .ok (.sipush 1700, 3) := by decide +kernel
theorem dX12_init_17 : decode bX12_init.2.1 17 = .ok (.newarray .int, 2) := by decide +kernel
theorem dX12_init_19 : decode bX12_init.2.1 19 = .ok (.putfield 13, 3) := by decide +kernel
theorem dX12_init_22 : decode bX12_init.2.1 22 = .ok (.aload_n 0, 1) := by decide +kernel
theorem dX12_init_23 : decode bX12_init.2.1 23 = .ok (.sipush 1700, 3) := by decide +kernel
theorem dX12_init_26 : decode bX12_init.2.1 26 = .ok (.newarray .int, 2) := by decide +kernel
theorem dX12_init_28 : decode bX12_init.2.1 28 = .ok (.putfield 16, 3) := by decide +kernel
theorem dX12_init_31 : decode bX12_init.2.1 31 = .ok (.aload_n 0, 1) := by decide +kernel
theorem dX12_init_32 : decode bX12_init.2.1 32 = .ok (.iconst 5, 1) := by decide +kernel
theorem dX12_init_33 : decode bX12_init.2.1 33 = .ok (.newarray .int, 2) := by decide +kernel
theorem dX12_init_35 : decode bX12_init.2.1 35 = .ok (.putfield 19, 3) := by decide +kernel
theorem dX12_init_38 : decode bX12_init.2.1 38 = .ok (.aload_n 0, 1) := by decide +kernel
theorem dX12_init_39 : decode bX12_init.2.1 39 = .ok (.iconst 5, 1) := by decide +kernel
theorem dX12_init_40 : decode bX12_init.2.1 40 = .ok (.newarray .int, 2) := by decide +kernel
theorem dX12_init_42 : decode bX12_init.2.1 42 = .ok (.putfield 22, 3) := by decide +kernel
theorem dX12_init_45 : decode bX12_init.2.1 45 = .ok (.aload_n 0, 1) := by decide +kernel
theorem dX12_init_46 : decode bX12_init.2.1 46 = .ok (.sipush 450, 3) := by decide +kernel
theorem dX12_init_49 : decode bX12_init.2.1 49 = .ok (.newarray .int, 2) := by decide +kernel
theorem dX12_init_51 : decode bX12_init.2.1 51 = .ok (.putfield 25, 3) := by decide +kernel
theorem dX12_init_54 : decode bX12_init.2.1 54 = .ok (.aload_n 0, 1) := by decide +kernel
theorem dX12_init_55 : decode bX12_init.2.1 55 = .ok (.sipush 450, 3) := by decide +kernel
theorem dX12_init_58 : decode bX12_init.2.1 58 = .ok (.newarray .int, 2) := by decide +kernel
theorem dX12_init_60 : decode bX12_init.2.1 60 = .ok (.putfield 28, 3) := by decide +kernel
theorem dX12_init_63 : decode bX12_init.2.1 63 = .ok (.aload_n 0, 1) := by decide +kernel
theorem dX12_init_64 : decode bX12_init.2.1 64 = .ok (.sipush 450, 3) := by decide +kernel
theorem dX12_init_67 : decode bX12_init.2.1 67 = .ok (.newarray .int, 2) := by decide +kernel
theorem dX12_init_69 : decode bX12_init.2.1 69 = .ok (.putfield 31, 3) := by decide +kernel
theorem dX12_init_72 : decode bX12_init.2.1 72 = .ok (.aload_n 0, 1) := by decide +kernel
theorem dX12_init_73 : decode bX12_init.2.1 73 = .ok (.bipush 6, 2) := by decide +kernel
theorem dX12_init_75 : decode bX12_init.2.1 75 = .ok (.newarray .int, 2) := by decide +kernel
theorem dX12_init_77 : decode bX12_init.2.1 77 = .ok (.putfield 34, 3) := by decide +kernel
theorem dX12_init_80 : decode bX12_init.2.1 80 = .ok (.aload_n 0, 1) := by decide +kernel
theorem dX12_init_81 : decode bX12_init.2.1 81 = .ok (.bipush 80, 2) := by decide +kernel
theorem dX12_init_83 : decode bX12_init.2.1 83 = .ok (.newarray .int, 2) := by decide +kernel
theorem dX12_init_85 : decode bX12_init.2.1 85 = .ok (.putfield 37, 3) := by decide +kernel
theorem dX12_init_88 : decode bX12_init.2.1 88 = .ok (.aload_n 0, 1) := by decide +kernel
theorem dX12_init_89 : decode bX12_init.2.1 89 = .ok (.bipush 24, 2) := by decide +kernel
theorem dX12_init_91 : decode bX12_init.2.1 91 = .ok (.newarray .int, 2) := by decide +kernel
theorem dX12_init_93 : decode bX12_init.2.1 93 = .ok (.putfield 40, 3) := by decide +kernel
theorem dX12_init_96 : decode bX12_init.2.1 96 = .ok (.aload_n 0, 1) := by decide +kernel
theorem dX12_init_97 : decode bX12_init.2.1 97 = .ok (.bipush 24, 2) := by decide +kernel
theorem dX12_init_99 : decode bX12_init.2.1 99 = .ok (.newarray .int, 2) := by decide +kernel
theorem dX12_init_101 : decode bX12_init.2.1 101 = .ok (.putfield 43, 3) := by decide +kernel
theorem dX12_init_104 : decode bX12_init.2.1 104 = .ok (.aload_n 0, 1) := by decide +kernel
theorem dX12_init_105 : decode bX12_init.2.1 105 = .ok (.bipush 24, 2) := by decide +kernel
theorem dX12_init_107 : decode bX12_init.2.1 107 = .ok (.newarray .int, 2) := by decide +kernel
theorem dX12_init_109 : decode bX12_init.2.1 109 = .ok (.putfield 46, 3) := by decide +kernel
theorem dX12_init_112 : decode bX12_init.2.1 112 = .ok (.aload_n 0, 1) := by decide +kernel
theorem dX12_init_113 : decode bX12_init.2.1 113 = .ok (.bipush 24, 2) := by decide +kernel
theorem dX12_init_115 : decode bX12_init.2.1 115 = .ok (.newarray .int, 2) := by decide +kernel
theorem dX12_init_117 : decode bX12_init.2.1 117 = .ok (.putfield 49, 3) := by decide +kernel
theorem dX12_init_120 : decode bX12_init.2.1 120 = .ok (.aload_n 0, 1) := by decide +kernel
theorem dX12_init_121 : decode bX12_init.2.1 121 = .ok (.bipush 24, 2) := by decide +kernel
theorem dX12_init_123 : decode bX12_init.2.1 123 = .ok (.newarray .int, 2) := by decide +kernel
theorem dX12_init_125 : decode bX12_init.2.1 125 = .ok (.putfield 52, 3) := by decide +kernel
theorem dX12_init_128 : decode bX12_init.2.1 128 = .ok (.aload_n 0, 1) := by decide +kernel
theorem dX12_init_129 : decode bX12_init.2.1 129 = .ok (.bipush 24, 2) := by decide +kernel
theorem dX12_init_131 : decode bX12_init.2.1 131 = .ok (.newarray .int, 2) := by decide +kernel
theorem dX12_init_133 : decode bX12_init.2.1 133 = .ok (.putfield 55, 3) := by decide +kernel
theorem dX12_init_136 : decode bX12_init.2.1 136 = .ok (.aload_n 0, 1) := by decide +kernel
theorem dX12_init_137 : decode bX12_init.2.1 137 = .ok (.bipush 24, 2) := by decide +kernel
theorem dX12_init_139 : decode bX12_init.2.1 139 = .ok (.newarray .int, 2) := by decide +kernel
theorem dX12_init_141 : decode bX12_init.2.1 141 = .ok (.putfield 58, 3) := by decide +kernel
theorem dX12_init_144 : decode bX12_init.2.1 144 = .ok (.aload_n 0, 1) := by decide +kernel
theorem dX12_init_145 : decode bX12_init.2.1 145 = .ok (.iconst (-1), 1) := by decide +kernel
theorem dX12_init_146 : decode bX12_init.2.1 146 = .ok (.putfield 61, 3) := by decide +kernel
theorem dX12_init_149 : decode bX12_init.2.1 149 = .ok (.aload_n 0, 1) := by decide +kernel
theorem dX12_init_150 : decode bX12_init.2.1 150 = .ok (.bipush 8, 2) := by decide +kernel
theorem dX12_init_152 : decode bX12_init.2.1 152 = .ok (.newarray .int, 2) := by decide +kernel
theorem dX12_init_154 : decode bX12_init.2.1 154 = .ok (.putfield 65, 3) := by decide +kernel
theorem dX12_init_157 : decode bX12_init.2.1 157 = .ok (.aload_n 0, 1) := by decide +kernel
theorem dX12_init_158 : decode bX12_init.2.1 158 = .ok (.bipush 8, 2) := by decide +kernel
theorem dX12_init_160 : decode bX12_init.2.1 160 = .ok (.newarray .int, 2) := by decide +kernel
theorem dX12_init_162 : decode bX12_init.2.1 162 = .ok (.putfield 68, 3) := by decide +kernel
theorem dX12_init_165 : decode bX12_init.2.1 165 = .ok (.aload_n 0, 1) := by decide +kernel
theorem dX12_init_166 : decode bX12_init.2.1 166 = .ok (.bipush 24, 2) := by decide +kernel
theorem dX12_init_168 : decode bX12_init.2.1 168 = .ok (.newarray .int, 2) := by decide +kernel
theorem dX12_init_170 : decode bX12_init.2.1 170 = .ok (.putfield 71, 3) := by decide +kernel
theorem dX12_init_173 : decode bX12_init.2.1 173 = .ok (.aload_n 0, 1) := by decide +kernel
theorem dX12_init_174 : decode bX12_init.2.1 174 = .ok (.sipush 200, 3) := by decide +kernel
theorem dX12_init_177 : decode bX12_init.2.1 177 = .ok (.newarray .int, 2) := by decide +kernel
theorem dX12_init_179 : decode bX12_init.2.1 179 = .ok (.putfield 74, 3) := by decide +kernel
theorem dX12_init_182 : decode bX12_init.2.1 182 = .ok (.aload_n 0, 1) := by decide +kernel
theorem dX12_init_183 : decode bX12_init.2.1 183 = .ok (.iconst 5, 1) := by decide +kernel
theorem dX12_init_184 : decode bX12_init.2.1 184 = .ok (.newarray .int, 2) := by decide +kernel
theorem dX12_init_186 : decode bX12_init.2.1 186 = .ok (.putfield 77, 3) := by decide +kernel
theorem dX12_init_189 : decode bX12_init.2.1 189 = .ok (.aload_n 0, 1) := by decide +kernel
theorem dX12_init_190 : decode bX12_init.2.1 190 = .ok (.bipush 24, 2) := by decide +kernel
theorem dX12_init_192 : decode bX12_init.2.1 192 = .ok (.newarray .int, 2) := by decide +kernel
theorem dX12_init_194 : decode bX12_init.2.1 194 = .ok (.putfield 80, 3) := by decide +kernel
theorem dX12_init_197 : decode bX12_init.2.1 197 = .ok (.aload_n 0, 1) := by decide +kernel
theorem dX12_init_198 : decode bX12_init.2.1 198 = .ok (.sipush 175, 3) := by decide +kernel
theorem dX12_init_201 : decode bX12_init.2.1 201 = .ok (.newarray .int, 2) := by decide +kernel
theorem dX12_init_203 : decode bX12_init.2.1 203 = .ok (.putfield 83, 3) := by decide +kernel
theorem dX12_init_206 : decode bX12_init.2.1 206 = .ok (.aload_n 0, 1) := by decide +kernel
theorem dX12_init_207 : decode bX12_init.2.1 207 = .ok (.sipush 175, 3) := by decide +kernel
theorem dX12_init_210 : decode bX12_init.2.1 210 = .ok (.newarray .int, 2) := by decide +kernel
theorem dX12_init_212 : decode bX12_init.2.1 212 = .ok (.putfield 86, 3) := by decide +kernel
theorem dX12_init_215 : decode bX12_init.2.1 215 = .ok (.aload_n 0, 1) := by decide +kernel
theorem dX12_init_216 : decode bX12_init.2.1 216 = .ok (.bipush 25, 2) := by decide +kernel
theorem dX12_init_218 : decode bX12_init.2.1 218 = .ok (.newarray .long, 2) := by decide +kernel
theorem dX12_init_220 : decode bX12_init.2.1 220 = .ok (.putfield 89, 3) := by decide +kernel
theorem dX12_init_223 : decode bX12_init.2.1 223 = .ok (.aload_n 0, 1) := by decide +kernel
theorem dX12_init_224 : decode bX12_init.2.1 224 = .ok (.bipush 25, 2) := by decide +kernel
theorem dX12_init_226 : decode bX12_init.2.1 226 = .ok (.newarray .long, 2) := by decide +kernel
theorem dX12_init_228 : decode bX12_init.2.1 228 = .ok (.putfield 93, 3) := by decide +kernel
theorem dX12_init_231 : decode bX12_init.2.1 231 = .ok (.aload_n 0, 1) := by decide +kernel
theorem dX12_init_232 : decode bX12_init.2.1 232 = .ok (.bipush 24, 2) := by decide +kernel
theorem dX12_init_234 : decode bX12_init.2.1 234 = .ok (.newarray .long, 2) := by decide +kernel
theorem dX12_init_236 : decode bX12_init.2.1 236 = .ok (.putfield 96, 3) := by decide +kernel
theorem dX12_init_239 : decode bX12_init.2.1 239 = .ok (.aload_n 0, 1) := by decide +kernel
theorem dX12_init_240 : decode bX12_init.2.1 240 = .ok (.bipush 24, 2) := by decide +kernel
theorem dX12_init_242 : decode bX12_init.2.1 242 = .ok (.newarray .long, 2) := by decide +kernel
theorem dX12_init_244 : decode bX12_init.2.1 244 = .ok (.putfield 99, 3) := by decide +kernel
theorem dX12_init_247 : decode bX12_init.2.1 247 = .ok (.aload_n 0, 1) := by decide +kernel
theorem dX12_init_248 : decode bX12_init.2.1 248 = .ok (.bipush 24, 2) := by decide +kernel
theorem dX12_init_250 : decode bX12_init.2.1 250 = .ok (.newarray .int, 2) := by decide +kernel
theorem dX12_init_252 : decode bX12_init.2.1 252 = .ok (.putfield 102, 3) := by decide +kernel
theorem dX12_init_255 : decode bX12_init.2.1 255 = .ok (.aload_n 0, 1) := by decide +kernel
theorem dX12_init_256 : decode bX12_init.2.1 256 = .ok (.bipush 24, 2) := by decide +kernel
theorem dX12_init_258 : decode bX12_init.2.1 258 = .ok (.newarray .int, 2) := by decide +kernel
theorem dX12_init_260 : decode bX12_init.2.1 260 = .ok (.putfield 105, 3) := by decide +kernel
theorem dX12_init_263 : decode bX12_init.2.1 263 = .ok (.aload_n 0, 1) := by decide +kernel
theorem dX12_init_264 : decode bX12_init.2.1 264 = .ok (.sipush 256, 3) := by decide +kernel
theorem dX12_init_267 : decode bX12_init.2.1 267 = .ok (.newarray .int, 2) := by decide +kernel
theorem dX12_init_269 : decode bX12_init.2.1 269 = .ok (.putfield 108, 3) := by decide +kernel
theorem dX12_init_272 : decode bX12_init.2.1 272 = .ok (.aload_n 0, 1) := by decide +kernel
theorem dX12_init_273 : decode bX12_init.2.1 273 = .ok (.bipush 24, 2) := by decide +kernel
theorem dX12_init_275 : decode bX12_init.2.1 275 = .ok (.newarray .int, 2) := by decide +kernel
theorem dX12_init_277 : decode bX12_init.2.1 277 = .ok (.putfield 111, 3) := by decide +kernel
theorem dX12_init_280 : decode bX12_init.2.1 280 = .ok (.iconst 0, 1) := by decide +kernel
theorem dX12_init_281 : decode bX12_init.2.1 281 = .ok (.istore_n 1, 1) := by decide +kernel
theorem dX12_init_282 : decode bX12_init.2.1 282 = .ok (.iload_n 1, 1) := by decide +kernel
theorem dX12_init_283 : decode bX12_init.2.1 283 = .ok (.bipush 8, 2) := by decide +kernel
theorem dX12_init_285 : decode bX12_init.2.1 285 = .ok (.if_icmp .ge 17, 3) := by decide +kernel
theorem dX12_init_288 : decode bX12_init.2.1 288 = .ok (.aload_n 0, 1) := by decide +kernel
theorem dX12_init_289 : decode bX12_init.2.1 289 = .ok (.getfield 68, 3) := by decide +kernel
theorem dX12_init_292 : decode bX12_init.2.1 292 = .ok (.iload_n 1, 1) := by decide +kernel
theorem dX12_init_293 : decode bX12_init.2.1 293 = .ok (.bipush 50, 2) := by decide +kernel
theorem dX12_init_295 : decode bX12_init.2.1 295 = .ok (.iastore, 1) := by decide +kernel
theorem dX12_init_296 : decode bX12_init.2.1 296 = .ok (.iinc 1 1, 3) := by decide +kernel
theorem dX12_init_299 : decode bX12_init.2.1 299 = .ok (.goto (-17), 3) := by decide +kernel
theorem dX12_init_302 : decode bX12_init.2.1 302 = .ok (.return_, 1) := by decide +kernel
theorem dX12_thrown_0 : decode bX12_thrown.2.1 0 = .ok (.aload_n 0, 1) := by decide +kernel
theorem dX12_thrown_1 : decode bX12_thrown.2.1 1 = .ok (.getfield 114, 3) := by decide +kernel
theorem dX12_thrown_4 : decode bX12_thrown.2.1 4 = .ok (.ireturn, 1) := by decide +kernel
theorem dX12_byteOf_0 : decode bX12_byteOf.2.1 0 = .ok (.iload 5, 2) := by decide +kernel
theorem dX12_byteOf_2 : decode bX12_byteOf.2.1 2 = .ok (.iconst 4, 1) := by decide +kernel
theorem dX12_byteOf_3 : decode bX12_byteOf.2.1 3 = .ok (.if_icmp .ge 7, 3) := by decide +kernel
theorem dX12_byteOf_6 : decode bX12_byteOf.2.1 6 = .ok (.iload_n 0, 1) := by decide +kernel
theorem dX12_byteOf_7 : decode bX12_byteOf.2.1 7 = .ok (.goto 38, 3) := by decide +kernel
theorem dX12_byteOf_10 : decode bX12_byteOf.2.1 10 = .ok (.iload 5, 2) := by decide +kernel
theorem dX12_byteOf_12 : decode bX12_byteOf.2.1 12 = .ok (.bipush 8, 2) := by decide +kernel
theorem dX12_byteOf_14 : decode bX12_byteOf.2.1 14 = .ok (.if_icmp .ge 7, 3) := by decide +kernel
theorem dX12_byteOf_17 : decode bX12_byteOf.2.1 17 = .ok (.iload_n 1, 1) := by decide +kernel
theorem dX12_byteOf_18 : decode bX12_byteOf.2.1 18 = .ok (.goto 27, 3) := by decide +kernel
theorem dX12_byteOf_21 : decode bX12_byteOf.2.1 21 = .ok (.iload 5, 2) := by decide +kernel
theorem dX12_byteOf_23 : decode bX12_byteOf.2.1 23 = .ok (.bipush 12, 2) := by decide +kernel
theorem dX12_byteOf_25 : decode bX12_byteOf.2.1 25 = .ok (.if_icmp .ge 7, 3) := by decide +kernel
theorem dX12_byteOf_28 : decode bX12_byteOf.2.1 28 = .ok (.iload_n 2, 1) := by decide +kernel
theorem dX12_byteOf_29 : decode bX12_byteOf.2.1 29 = .ok (.goto 16, 3) := by decide +kernel
theorem dX12_byteOf_32 : decode bX12_byteOf.2.1 32 = .ok (.iload 5, 2) := by decide +kernel
theorem dX12_byteOf_34 : decode bX12_byteOf.2.1 34 = .ok (.bipush 16, 2) := by decide +kernel
theorem dX12_byteOf_36 : decode bX12_byteOf.2.1 36 = .ok (.if_icmp .ge 7, 3) := by decide +kernel
theorem dX12_byteOf_39 : decode bX12_byteOf.2.1 39 = .ok (.iload_n 3, 1) := by decide +kernel
theorem dX12_byteOf_40 : decode bX12_byteOf.2.1 40 = .ok (.goto 5, 3) := by decide +kernel
theorem dX12_byteOf_43 : decode bX12_byteOf.2.1 43 = .ok (.iload 4, 2) := by decide +kernel
theorem dX12_byteOf_45 : decode bX12_byteOf.2.1 45 = .ok (.istore 6, 2) := by decide +kernel
theorem dX12_byteOf_47 : decode bX12_byteOf.2.1 47 = .ok (.iload 6, 2) := by decide +kernel
theorem dX12_byteOf_49 : decode bX12_byteOf.2.1 49 = .ok (.bipush 24, 2) := by decide +kernel
theorem dX12_byteOf_51 : decode bX12_byteOf.2.1 51 = .ok (.bipush 8, 2) := by decide +kernel
theorem dX12_byteOf_53 : decode bX12_byteOf.2.1 53 = .ok (.iload 5, 2) := by decide +kernel
theorem dX12_byteOf_55 : decode bX12_byteOf.2.1 55 = .ok (.iconst 4, 1) := by decide +kernel
theorem dX12_byteOf_56 : decode bX12_byteOf.2.1 56 = .ok (.irem, 1) := by decide +kernel
theorem dX12_byteOf_57 : decode bX12_byteOf.2.1 57 = .ok (.imul, 1) := by decide +kernel
theorem dX12_byteOf_58 : decode bX12_byteOf.2.1 58 = .ok (.isub, 1) := by decide +kernel
theorem dX12_byteOf_59 : decode bX12_byteOf.2.1 59 = .ok (.ishr, 1) := by decide +kernel
theorem dX12_byteOf_60 : decode bX12_byteOf.2.1 60 = .ok (.sipush 255, 3) := by decide +kernel
theorem dX12_byteOf_63 : decode bX12_byteOf.2.1 63 = .ok (.iand, 1) := by decide +kernel
theorem dX12_byteOf_64 : decode bX12_byteOf.2.1 64 = .ok (.ireturn, 1) := by decide +kernel
theorem dX12_feed_0 : decode bX12_feed.2.1 0 = .ok (.iconst 0, 1) := by decide +kernel
theorem dX12_feed_1 : decode bX12_feed.2.1 1 = .ok (.istore 6, 2) := by decide +kernel
theorem dX12_feed_3 : decode bX12_feed.2.1 3 = .ok (.iconst 0, 1) := by decide +kernel
theorem dX12_feed_4 : decode bX12_feed.2.1 4 = .ok (.istore 7, 2) := by decide +kernel
theorem dX12_feed_6 : decode bX12_feed.2.1 6 = .ok (.iload 7, 2) := by decide +kernel
theorem dX12_feed_8 : decode bX12_feed.2.1 8 = .ok (.bipush 20, 2) := by decide +kernel
theorem dX12_feed_10 : decode bX12_feed.2.1 10 = .ok (.if_icmp .ge 34, 3) := by decide +kernel
theorem dX12_feed_13 : decode bX12_feed.2.1 13 = .ok (.iload 6, 2) := by decide +kernel
theorem dX12_feed_15 : decode bX12_feed.2.1 15 = .ok (.iload_n 1, 1) := by decide +kernel
theorem dX12_feed_16 : decode bX12_feed.2.1 16 = .ok (.iload_n 2, 1) := by decide +kernel
theorem dX12_feed_17 : decode bX12_feed.2.1 17 = .ok (.iload_n 3, 1) := by decide +kernel
theorem dX12_feed_18 : decode bX12_feed.2.1 18 = .ok (.iload 4, 2) := by decide +kernel
theorem dX12_feed_20 : decode bX12_feed.2.1 20 = .ok (.iload 5, 2) := by decide +kernel
theorem dX12_feed_22 : decode bX12_feed.2.1 22 = .ok (.iload 7, 2) := by decide +kernel
theorem dX12_feed_24 : decode bX12_feed.2.1 24 = .ok (.invokestatic 117, 3) := by decide +kernel
theorem dX12_feed_27 : decode bX12_feed.2.1 27 = .ok (.ifCond .eq 7, 3) := by decide +kernel
theorem dX12_feed_30 : decode bX12_feed.2.1 30 = .ok (.iconst 1, 1) := by decide +kernel
theorem dX12_feed_31 : decode bX12_feed.2.1 31 = .ok (.goto 4, 3) := by decide +kernel
theorem dX12_feed_34 : decode bX12_feed.2.1 34 = .ok (.iconst 0, 1) := by decide +kernel
theorem dX12_feed_35 : decode bX12_feed.2.1 35 = .ok (.iadd, 1) := by decide +kernel
theorem dX12_feed_36 : decode bX12_feed.2.1 36 = .ok (.istore 6, 2) := by decide +kernel
theorem dX12_feed_38 : decode bX12_feed.2.1 38 = .ok (.iinc 7 1, 3) := by decide +kernel
theorem dX12_feed_41 : decode bX12_feed.2.1 41 = .ok (.goto (-35), 3) := by decide +kernel
theorem dX12_feed_44 : decode bX12_feed.2.1 44 = .ok (.aload_n 0, 1) := by decide +kernel
theorem dX12_feed_45 : decode bX12_feed.2.1 45 = .ok (.getfield 121, 3) := by decide +kernel
theorem dX12_feed_48 : decode bX12_feed.2.1 48 = .ok (.iload 6, 2) := by decide +kernel
theorem dX12_feed_50 : decode bX12_feed.2.1 50 = .ok (.iadd, 1) := by decide +kernel
theorem dX12_feed_51 : decode bX12_feed.2.1 51 = .ok (.sipush 160, 3) := by decide +kernel
theorem dX12_feed_54 : decode bX12_feed.2.1 54 = .ok (.if_icmp .le 5, 3) := by decide +kernel
theorem dX12_feed_57 : decode bX12_feed.2.1 57 = .ok (.iconst (-1), 1) := by decide +kernel
theorem dX12_feed_58 : decode bX12_feed.2.1 58 = .ok (.ireturn, 1) := by decide +kernel
theorem dX12_feed_59 : decode bX12_feed.2.1 59 = .ok (.iconst 0, 1) := by decide +kernel
theorem dX12_feed_60 : decode bX12_feed.2.1 60 = .ok (.istore 7, 2) := by decide +kernel
theorem dX12_feed_62 : decode bX12_feed.2.1 62 = .ok (.iload 7, 2) := by decide +kernel
theorem dX12_feed_64 : decode bX12_feed.2.1 64 = .ok (.bipush 20, 2) := by decide +kernel
theorem dX12_feed_66 : decode bX12_feed.2.1 66 = .ok (.if_icmp .ge 49, 3) := by decide +kernel
theorem dX12_feed_69 : decode bX12_feed.2.1 69 = .ok (.iload_n 1, 1) := by decide +kernel
theorem dX12_feed_70 : decode bX12_feed.2.1 70 = .ok (.iload_n 2, 1) := by decide +kernel
theorem dX12_feed_71 : decode bX12_feed.2.1 71 = .ok (.iload_n 3, 1) := by decide +kernel
theorem dX12_feed_72 : decode bX12_feed.2.1 72 = .ok (.iload 4, 2) := by decide +kernel
theorem dX12_feed_74 : decode bX12_feed.2.1 74 = .ok (.iload 5, 2) := by decide +kernel
theorem dX12_feed_76 : decode bX12_feed.2.1 76 = .ok (.iload 7, 2) := by decide +kernel
theorem dX12_feed_78 : decode bX12_feed.2.1 78 = .ok (.invokestatic 117, 3) := by decide +kernel
theorem dX12_feed_81 : decode bX12_feed.2.1 81 = .ok (.istore 8, 2) := by decide +kernel
theorem dX12_feed_83 : decode bX12_feed.2.1 83 = .ok (.iload 8, 2) := by decide +kernel
theorem dX12_feed_85 : decode bX12_feed.2.1 85 = .ok (.ifCond .eq 24, 3) := by decide +kernel
theorem dX12_feed_88 : decode bX12_feed.2.1 88 = .ok (.aload_n 0, 1) := by decide +kernel
theorem dX12_feed_89 : decode bX12_feed.2.1 89 = .ok (.getfield 9, 3) := by decide +kernel
theorem dX12_feed_92 : decode bX12_feed.2.1 92 = .ok (.aload_n 0, 1) := by decide +kernel
theorem dX12_feed_93 : decode bX12_feed.2.1 93 = .ok (.getfield 121, 3) := by decide +kernel
theorem dX12_feed_96 : decode bX12_feed.2.1 96 = .ok (.iload 8, 2) := by decide +kernel
theorem dX12_feed_98 : decode bX12_feed.2.1 98 = .ok (.iastore, 1) := by decide +kernel
theorem dX12_feed_99 : decode bX12_feed.2.1 99 = .ok (.aload_n 0, 1) := by decide +kernel
theorem dX12_feed_100 : decode bX12_feed.2.1 100 = .ok (.dup, 1) := by decide +kernel
theorem dX12_feed_101 : decode bX12_feed.2.1 101 = .ok (.getfield 121, 3) := by decide +kernel
theorem dX12_feed_104 : decode bX12_feed.2.1 104 = .ok (.iconst 1, 1) := by decide +kernel
theorem dX12_feed_105 : decode bX12_feed.2.1 105 = .ok (.iadd, 1) := by decide +kernel
theorem dX12_feed_106 : decode bX12_feed.2.1 106 = .ok (.putfield 121, 3) := by decide +kernel
theorem dX12_feed_109 : decode bX12_feed.2.1 109 = .ok (.iinc 7 1, 3) := by decide +kernel
theorem dX12_feed_112 : decode bX12_feed.2.1 112 = .ok (.goto (-50), 3) := by decide +kernel
theorem dX12_feed_115 : decode bX12_feed.2.1 115 = .ok (.aload_n 0, 1) := by decide +kernel
theorem dX12_feed_116 : decode bX12_feed.2.1 116 = .ok (.getfield 121, 3) := by decide +kernel
theorem dX12_feed_119 : decode bX12_feed.2.1 119 = .ok (.ireturn, 1) := by decide +kernel
theorem dX12_end_0 : decode bX12_end.2.1 0 = .ok (.iload_n 1, 1) := by decide +kernel
theorem dX12_end_1 : decode bX12_end.2.1 1 = .ok (.ifCond .lt 11, 3) := by decide +kernel
theorem dX12_end_4 : decode bX12_end.2.1 4 = .ok (.iload_n 1, 1) := by decide +kernel
theorem dX12_end_5 : decode bX12_end.2.1 5 = .ok (.aload_n 0, 1) := by decide +kernel
theorem dX12_end_6 : decode bX12_end.2.1 6 = .ok (.getfield 121, 3) := by decide +kernel
theorem dX12_end_9 : decode bX12_end.2.1 9 = .ok (.if_icmp .le 5, 3) := by decide +kernel
theorem dX12_end_12 : decode bX12_end.2.1 12 = .ok (.iconst 0, 1) := by decide +kernel
theorem dX12_end_13 : decode bX12_end.2.1 13 = .ok (.ireturn, 1) := by decide +kernel
theorem dX12_end_14 : decode bX12_end.2.1 14 = .ok (.aload_n 0, 1) := by decide +kernel
theorem dX12_end_15 : decode bX12_end.2.1 15 = .ok (.iload_n 1, 1) := by decide +kernel
theorem dX12_end_16 : decode bX12_end.2.1 16 = .ok (.putfield 121, 3) := by decide +kernel
theorem dX12_end_19 : decode bX12_end.2.1 19 = .ok (.iconst 1, 1) := by decide +kernel
theorem dX12_end_20 : decode bX12_end.2.1 20 = .ok (.ireturn, 1) := by decide +kernel
theorem dX12_here_0 : decode bX12_here.2.1 0 = .ok (.aload_n 0, 1) := by decide +kernel
theorem dX12_here_1 : decode bX12_here.2.1 1 = .ok (.getfield 124, 3) := by decide +kernel
theorem dX12_here_4 : decode bX12_here.2.1 4 = .ok (.aload_n 0, 1) := by decide +kernel
theorem dX12_here_5 : decode bX12_here.2.1 5 = .ok (.getfield 121, 3) := by decide +kernel
theorem dX12_here_8 : decode bX12_here.2.1 8 = .ok (.if_icmp .ge 15, 3) := by decide +kernel
theorem dX12_here_11 : decode bX12_here.2.1 11 = .ok (.aload_n 0, 1) := by decide +kernel
theorem dX12_here_12 : decode bX12_here.2.1 12 = .ok (.getfield 9, 3) := by decide +kernel
theorem dX12_here_15 : decode bX12_here.2.1 15 = .ok (.aload_n 0, 1) := by decide +kernel
theorem dX12_here_16 : decode bX12_here.2.1 16 = .ok (.getfield 124, 3) := by decide +kernel
theorem dX12_here_19 : decode bX12_here.2.1 19 = .ok (.iaload, 1) := by decide +kernel
theorem dX12_here_20 : decode bX12_here.2.1 20 = .ok (.goto 4, 3) := by decide +kernel
theorem dX12_here_23 : decode bX12_here.2.1 23 = .ok (.iconst (-1), 1) := by decide +kernel
theorem dX12_here_24 : decode bX12_here.2.1 24 = .ok (.ireturn, 1) := by decide +kernel
theorem dX12_look_0 : decode bX12_look.2.1 0 = .ok (.aload_n 0, 1) := by decide +kernel
theorem dX12_look_1 : decode bX12_look.2.1 1 = .ok (.invokevirtual 127, 3) := by decide +kernel
theorem dX12_look_4 : decode bX12_look.2.1 4 = .ok (.bipush 32, 2) := by decide +kernel
theorem dX12_look_6 : decode bX12_look.2.1 6 = .ok (.if_icmp .ne 16, 3) := by decide +kernel
theorem dX12_look_9 : decode bX12_look.2.1 9 = .ok (.aload_n 0, 1) := by decide +kernel
theorem dX12_look_10 : decode bX12_look.2.1 10 = .ok (.dup, 1) := by decide +kernel
theorem dX12_look_11 : decode bX12_look.2.1 11 = .ok (.getfield 124, 3) := by decide +kernel
theorem dX12_look_14 : decode bX12_look.2.1 14 = .ok (.iconst 1, 1) := by decide +kernel
theorem dX12_look_15 : decode bX12_look.2.1 15 = .ok (.iadd, 1) := by decide +kernel
theorem dX12_look_16 : decode bX12_look.2.1 16 = .ok (.putfield 124, 3) := by decide +kernel
theorem dX12_look_19 : decode bX12_look.2.1 19 = .ok (.goto (-19), 3) := by decide +kernel
theorem dX12_look_22 : decode bX12_look.2.1 22 = .ok (.aload_n 0, 1) := by decide +kernel
theorem dX12_look_23 : decode bX12_look.2.1 23 = .ok (.invokevirtual 127, 3) := by decide +kernel
theorem dX12_look_26 : decode bX12_look.2.1 26 = .ok (.ireturn, 1) := by decide +kernel
theorem dX12_bad_0 : decode bX12_bad.2.1 0 = .ok (.aload_n 0, 1) := by decide +kernel
theorem dX12_bad_1 : decode bX12_bad.2.1 1 = .ok (.aload_n 0, 1) := by decide +kernel
theorem dX12_bad_2 : decode bX12_bad.2.1 2 = .ok (.getfield 131, 3) := by decide +kernel
theorem dX12_bad_5 : decode bX12_bad.2.1 5 = .ok (.iconst (-1), 1) := by decide +kernel
theorem dX12_bad_6 : decode bX12_bad.2.1 6 = .ok (.if_icmp .ne 10, 3) := by decide +kernel
theorem dX12_bad_9 : decode bX12_bad.2.1 9 = .ok (.aload_n 0, 1) := by decide +kernel
theorem dX12_bad_10 : decode bX12_bad.2.1 10 = .ok (.getfield 124, 3) := by decide +kernel
theorem dX12_bad_13 : decode bX12_bad.2.1 13 = .ok (.goto 7, 3) := by decide +kernel
theorem dX12_bad_16 : decode bX12_bad.2.1 16 = .ok (.aload_n 0, 1) := by decide +kernel
theorem dX12_bad_17 : decode bX12_bad.2.1 17 = .ok (.getfield 131, 3) := by decide +kernel
theorem dX12_bad_20 : decode bX12_bad.2.1 20 = .ok (.putfield 131, 3) := by decide +kernel
theorem dX12_bad_23 : decode bX12_bad.2.1 23 = .ok (.return_, 1) := by decide +kernel
theorem dX12_isDigit_0 : decode bX12_isDigit.2.1 0 = .ok (.iload_n 0, 1) := by decide +kernel
theorem dX12_isDigit_1 : decode bX12_isDigit.2.1 1 = .ok (.bipush 48, 2) := by decide +kernel
theorem dX12_isDigit_3 : decode bX12_isDigit.2.1 3 = .ok (.if_icmp .lt 13, 3) := by decide +kernel
theorem dX12_isDigit_6 : decode bX12_isDigit.2.1 6 = .ok (.iload_n 0, 1) := by decide +kernel
theorem dX12_isDigit_7 : decode bX12_isDigit.2.1 7 = .ok (.bipush 57, 2) := by decide +kernel
theorem dX12_isDigit_9 : decode bX12_isDigit.2.1 9 = .ok (.if_icmp .gt 7, 3) := by decide +kernel
theorem dX12_isDigit_12 : decode bX12_isDigit.2.1 12 = .ok (.iconst 1, 1) := by decide +kernel
theorem dX12_isDigit_13 : decode bX12_isDigit.2.1 13 = .ok (.goto 4, 3) := by decide +kernel
theorem dX12_isDigit_16 : decode bX12_isDigit.2.1 16 = .ok (.iconst 0, 1) := by decide +kernel
theorem dX12_isDigit_17 : decode bX12_isDigit.2.1 17 = .ok (.ireturn, 1) := by decide +kernel
theorem dX12_put_0 : decode bX12_put.2.1 0 = .ok (.aload_n 0, 1) := by decide +kernel
theorem dX12_put_1 : decode bX12_put.2.1 1 = .ok (.getfield 13, 3) := by decide +kernel
theorem dX12_put_4 : decode bX12_put.2.1 4 = .ok (.sipush 340, 3) := by decide +kernel
theorem dX12_put_7 : decode bX12_put.2.1 7 = .ok (.aload_n 0, 1) := by decide +kernel
theorem dX12_put_8 : decode bX12_put.2.1 8 = .ok (.getfield 134, 3) := by decide +kernel
theorem dX12_put_11 : decode bX12_put.2.1 11 = .ok (.imul, 1) := by decide +kernel
theorem dX12_put_12 : decode bX12_put.2.1 12 = .ok (.aload_n 0, 1) := by decide +kernel
theorem dX12_put_13 : decode bX12_put.2.1 13 = .ok (.getfield 19, 3) := by decide +kernel
theorem dX12_put_16 : decode bX12_put.2.1 16 = .ok (.aload_n 0, 1) := by decide +kernel
theorem dX12_put_17 : decode bX12_put.2.1 17 = .ok (.getfield 134, 3) := by decide +kernel
theorem dX12_put_20 : decode bX12_put.2.1 20 = .ok (.iaload, 1) := by decide +kernel
theorem dX12_put_21 : decode bX12_put.2.1 21 = .ok (.iadd, 1) := by decide +kernel
theorem dX12_put_22 : decode bX12_put.2.1 22 = .ok (.iload_n 1, 1) := by decide +kernel
theorem dX12_put_23 : decode bX12_put.2.1 23 = .ok (.iastore, 1) := by decide +kernel
theorem dX12_put_24 : decode bX12_put.2.1 24 = .ok (.aload_n 0, 1) := by decide +kernel
theorem dX12_put_25 : decode bX12_put.2.1 25 = .ok (.getfield 16, 3) := by decide +kernel
theorem dX12_put_28 : decode bX12_put.2.1 28 = .ok (.sipush 340, 3) := by decide +kernel
theorem dX12_put_31 : decode bX12_put.2.1 31 = .ok (.aload_n 0, 1) := by decide +kernel
theorem dX12_put_32 : decode bX12_put.2.1 32 = .ok (.getfield 134, 3) := by decide +kernel
theorem dX12_put_35 : decode bX12_put.2.1 35 = .ok (.imul, 1) := by decide +kernel
theorem dX12_put_36 : decode bX12_put.2.1 36 = .ok (.aload_n 0, 1) := by decide +kernel
theorem dX12_put_37 : decode bX12_put.2.1 37 = .ok (.getfield 19, 3) := by decide +kernel
theorem dX12_put_40 : decode bX12_put.2.1 40 = .ok (.aload_n 0, 1) := by decide +kernel
theorem dX12_put_41 : decode bX12_put.2.1 41 = .ok (.getfield 134, 3) := by decide +kernel
theorem dX12_put_44 : decode bX12_put.2.1 44 = .ok (.iaload, 1) := by decide +kernel
theorem dX12_put_45 : decode bX12_put.2.1 45 = .ok (.iadd, 1) := by decide +kernel
theorem dX12_put_46 : decode bX12_put.2.1 46 = .ok (.iload_n 2, 1) := by decide +kernel
theorem dX12_put_47 : decode bX12_put.2.1 47 = .ok (.iastore, 1) := by decide +kernel
theorem dX12_put_48 : decode bX12_put.2.1 48 = .ok (.aload_n 0, 1) := by decide +kernel
theorem dX12_put_49 : decode bX12_put.2.1 49 = .ok (.getfield 19, 3) := by decide +kernel
theorem dX12_put_52 : decode bX12_put.2.1 52 = .ok (.aload_n 0, 1) := by decide +kernel
theorem dX12_put_53 : decode bX12_put.2.1 53 = .ok (.getfield 134, 3) := by decide +kernel
theorem dX12_put_56 : decode bX12_put.2.1 56 = .ok (.dup2, 1) := by decide +kernel
theorem dX12_put_57 : decode bX12_put.2.1 57 = .ok (.iaload, 1) := by decide +kernel
theorem dX12_put_58 : decode bX12_put.2.1 58 = .ok (.iconst 1, 1) := by decide +kernel
theorem dX12_put_59 : decode bX12_put.2.1 59 = .ok (.iadd, 1) := by decide +kernel
theorem dX12_put_60 : decode bX12_put.2.1 60 = .ok (.iastore, 1) := by decide +kernel
theorem dX12_put_61 : decode bX12_put.2.1 61 = .ok (.return_, 1) := by decide +kernel
theorem dX12_letterOf_0 : decode bX12_letterOf.2.1 0 = .ok (.iload_n 0, 1) := by decide +kernel
theorem dX12_letterOf_1 : decode bX12_letterOf.2.1 1 = .ok (.bipush 97, 2) := by decide +kernel
theorem dX12_letterOf_3 : decode bX12_letterOf.2.1 3 = .ok (.if_icmp .ne 7, 3) := by decide +kernel
theorem dX12_letterOf_6 : decode bX12_letterOf.2.1 6 = .ok (.iconst 0, 1) := by decide +kernel
theorem dX12_letterOf_7 : decode bX12_letterOf.2.1 7 = .ok (.goto 54, 3) := by decide +kernel
theorem dX12_letterOf_10 : decode bX12_letterOf.2.1 10 = .ok (.iload_n 0, 1) := by decide +kernel
theorem dX12_letterOf_11 : decode bX12_letterOf.2.1 11 = .ok (.bipush 115, 2) := by decide +kernel
theorem dX12_letterOf_13 : decode bX12_letterOf.2.1 13 = .ok (.if_icmp .ne 7, 3) := by decide +kernel
theorem dX12_letterOf_16 : decode bX12_letterOf.2.1 16 = .ok (.iconst 1, 1) := by decide +kernel
theorem dX12_letterOf_17 : decode bX12_letterOf.2.1 17 = .ok (.goto 44, 3) := by decide +kernel
theorem dX12_letterOf_20 : decode bX12_letterOf.2.1 20 = .ok (.iload_n 0, 1) := by decide +kernel
theorem dX12_letterOf_21 : decode bX12_letterOf.2.1 21 = .ok (.bipush 108, 2) := by decide +kernel
theorem dX12_letterOf_23 : decode bX12_letterOf.2.1 23 = .ok (.if_icmp .ne 7, 3) := by decide +kernel
theorem dX12_letterOf_26 : decode bX12_letterOf.2.1 26 = .ok (.iconst 2, 1) := by decide +kernel
theorem dX12_letterOf_27 : decode bX12_letterOf.2.1 27 = .ok (.goto 34, 3) := by decide +kernel
theorem dX12_letterOf_30 : decode bX12_letterOf.2.1 30 = .ok (.iload_n 0, 1) := by decide +kernel
theorem dX12_letterOf_31 : decode bX12_letterOf.2.1 31 = .ok (.bipush 103, 2) := by decide +kernel
theorem dX12_letterOf_33 : decode bX12_letterOf.2.1 33 = .ok (.if_icmp .ne 7, 3) := by decide +kernel
theorem dX12_letterOf_36 : decode bX12_letterOf.2.1 36 = .ok (.iconst 3, 1) := by decide +kernel
theorem dX12_letterOf_37 : decode bX12_letterOf.2.1 37 = .ok (.goto 24, 3) := by decide +kernel
theorem dX12_letterOf_40 : decode bX12_letterOf.2.1 40 = .ok (.iload_n 0, 1) := by decide +kernel
theorem dX12_letterOf_41 : decode bX12_letterOf.2.1 41 = .ok (.bipush 99, 2) := by decide +kernel
theorem dX12_letterOf_43 : decode bX12_letterOf.2.1 43 = .ok (.if_icmp .ne 7, 3) := by decide +kernel
theorem dX12_letterOf_46 : decode bX12_letterOf.2.1 46 = .ok (.iconst 4, 1) := by decide +kernel
theorem dX12_letterOf_47 : decode bX12_letterOf.2.1 47 = .ok (.goto 14, 3) := by decide +kernel
theorem dX12_letterOf_50 : decode bX12_letterOf.2.1 50 = .ok (.iload_n 0, 1) := by decide +kernel
theorem dX12_letterOf_51 : decode bX12_letterOf.2.1 51 = .ok (.bipush 109, 2) := by decide +kernel
theorem dX12_letterOf_53 : decode bX12_letterOf.2.1 53 = .ok (.if_icmp .ne 7, 3) := by decide +kernel
theorem dX12_letterOf_56 : decode bX12_letterOf.2.1 56 = .ok (.iconst 5, 1) := by decide +kernel
theorem dX12_letterOf_57 : decode bX12_letterOf.2.1 57 = .ok (.goto 4, 3) := by decide +kernel
theorem dX12_letterOf_60 : decode bX12_letterOf.2.1 60 = .ok (.iconst (-1), 1) := by decide +kernel
theorem dX12_letterOf_61 : decode bX12_letterOf.2.1 61 = .ok (.ireturn, 1) := by decide +kernel
theorem dX12_opens_0 : decode bX12_opens.2.1 0 = .ok (.aload_n 0, 1) := by decide +kernel
theorem dX12_opens_1 : decode bX12_opens.2.1 1 = .ok (.getfield 137, 3) := by decide +kernel
theorem dX12_opens_4 : decode bX12_opens.2.1 4 = .ok (.bipush 6, 2) := by decide +kernel
theorem dX12_opens_6 : decode bX12_opens.2.1 6 = .ok (.if_icmp .ne 7, 3) := by decide +kernel
theorem dX12_opens_9 : decode bX12_opens.2.1 9 = .ok (.aload_n 0, 1) := by decide +kernel
theorem dX12_opens_10 : decode bX12_opens.2.1 10 = .ok (.invokevirtual 140, 3) := by decide +kernel
theorem dX12_opens_13 : decode bX12_opens.2.1 13 = .ok (.aload_n 0, 1) := by decide +kernel
theorem dX12_opens_14 : decode bX12_opens.2.1 14 = .ok (.dup, 1) := by decide +kernel
theorem dX12_opens_15 : decode bX12_opens.2.1 15 = .ok (.getfield 137, 3) := by decide +kernel
theorem dX12_opens_18 : decode bX12_opens.2.1 18 = .ok (.iconst 1, 1) := by decide +kernel
theorem dX12_opens_19 : decode bX12_opens.2.1 19 = .ok (.iadd, 1) := by decide +kernel
theorem dX12_opens_20 : decode bX12_opens.2.1 20 = .ok (.putfield 137, 3) := by decide +kernel
theorem dX12_opens_23 : decode bX12_opens.2.1 23 = .ok (.aload_n 0, 1) := by decide +kernel
theorem dX12_opens_24 : decode bX12_opens.2.1 24 = .ok (.dup, 1) := by decide +kernel
theorem dX12_opens_25 : decode bX12_opens.2.1 25 = .ok (.getfield 124, 3) := by decide +kernel
theorem dX12_opens_28 : decode bX12_opens.2.1 28 = .ok (.iconst 1, 1) := by decide +kernel
theorem dX12_opens_29 : decode bX12_opens.2.1 29 = .ok (.iadd, 1) := by decide +kernel
theorem dX12_opens_30 : decode bX12_opens.2.1 30 = .ok (.putfield 124, 3) := by decide +kernel
theorem dX12_opens_33 : decode bX12_opens.2.1 33 = .ok (.return_, 1) := by decide +kernel
theorem dX12_closes_0 : decode bX12_closes.2.1 0 = .ok (.aload_n 0, 1) := by decide +kernel
theorem dX12_closes_1 : decode bX12_closes.2.1 1 = .ok (.getfield 131, 3) := by decide +kernel
theorem dX12_closes_4 : decode bX12_closes.2.1 4 = .ok (.iconst (-1), 1) := by decide +kernel
theorem dX12_closes_5 : decode bX12_closes.2.1 5 = .ok (.if_icmp .ne 15, 3) := by decide +kernel
theorem dX12_closes_8 : decode bX12_closes.2.1 8 = .ok (.aload_n 0, 1) := by decide +kernel
theorem dX12_closes_9 : decode bX12_closes.2.1 9 = .ok (.invokevirtual 143, 3) := by decide +kernel
theorem dX12_closes_12 : decode bX12_closes.2.1 12 = .ok (.iload_n 1, 1) := by decide +kernel
theorem dX12_closes_13 : decode bX12_closes.2.1 13 = .ok (.if_icmp .eq 7, 3) := by decide +kernel
theorem dX12_closes_16 : decode bX12_closes.2.1 16 = .ok (.aload_n 0, 1) := by decide +kernel
theorem dX12_closes_17 : decode bX12_closes.2.1 17 = .ok (.invokevirtual 140, 3) := by decide +kernel
theorem dX12_closes_20 : decode bX12_closes.2.1 20 = .ok (.aload_n 0, 1) := by decide +kernel
theorem dX12_closes_21 : decode bX12_closes.2.1 21 = .ok (.dup, 1) := by decide +kernel
theorem dX12_closes_22 : decode bX12_closes.2.1 22 = .ok (.getfield 124, 3) := by decide +kernel
theorem dX12_closes_25 : decode bX12_closes.2.1 25 = .ok (.iconst 1, 1) := by decide +kernel
theorem dX12_closes_26 : decode bX12_closes.2.1 26 = .ok (.iadd, 1) := by decide +kernel
theorem dX12_closes_27 : decode bX12_closes.2.1 27 = .ok (.putfield 124, 3) := by decide +kernel
theorem dX12_closes_30 : decode bX12_closes.2.1 30 = .ok (.aload_n 0, 1) := by decide +kernel
theorem dX12_closes_31 : decode bX12_closes.2.1 31 = .ok (.dup, 1) := by decide +kernel
theorem dX12_closes_32 : decode bX12_closes.2.1 32 = .ok (.getfield 137, 3) := by decide +kernel
theorem dX12_closes_35 : decode bX12_closes.2.1 35 = .ok (.iconst 1, 1) := by decide +kernel
theorem dX12_closes_36 : decode bX12_closes.2.1 36 = .ok (.isub, 1) := by decide +kernel
theorem dX12_closes_37 : decode bX12_closes.2.1 37 = .ok (.putfield 137, 3) := by decide +kernel
theorem dX12_closes_40 : decode bX12_closes.2.1 40 = .ok (.return_, 1) := by decide +kernel
theorem dX12_plainNumber_0 : decode bX12_plainNumber.2.1 0 = .ok (.iconst 0, 1) := by decide +kernel
theorem dX12_plainNumber_1 : decode bX12_plainNumber.2.1 1 = .ok (.istore_n 1, 1) := by decide +kernel
theorem dX12_plainNumber_2 : decode bX12_plainNumber.2.1 2 = .ok (.iconst 0, 1) := by decide +kernel
theorem dX12_plainNumber_3 : decode bX12_plainNumber.2.1 3 = .ok (.istore_n 2, 1) := by decide +kernel
theorem dX12_plainNumber_4 : decode bX12_plainNumber.2.1 4 = .ok (.iload_n 2, 1) := by decide +kernel
theorem dX12_plainNumber_5 : decode bX12_plainNumber.2.1 5 = .ok (.iconst 4, 1) := by decide +kernel
theorem dX12_plainNumber_6 : decode bX12_plainNumber.2.1 6 = .ok (.if_icmp .ge 42, 3) := by decide +kernel
theorem dX12_plainNumber_9 : decode bX12_plainNumber.2.1 9 = .ok (.aload_n 0, 1) := by decide +kernel
theorem dX12_plainNumber_10 : decode bX12_plainNumber.2.1 10 = .ok (.invokevirtual 127, 3) := by decide +kernel
theorem dX12_plainNumber_13 : decode bX12_plainNumber.2.1 13 = .ok (.invokestatic 146, 3) := by decide +kernel
theorem dX12_plainNumber_16 : decode bX12_plainNumber.2.1 16 = .ok (.ifCond .eq 32, 3) := by decide +kernel
theorem dX12_plainNumber_19 : decode bX12_plainNumber.2.1 19 = .ok (.bipush 10, 2) := by decide +kernel
theorem dX12_plainNumber_21 : decode bX12_plainNumber.2.1 21 = .ok (.iload_n 1, 1) := by decide +kernel
theorem dX12_plainNumber_22 : decode bX12_plainNumber.2.1 22 = .ok (.imul, 1) := by decide +kernel
theorem dX12_plainNumber_23 : decode bX12_plainNumber.2.1 23 = .ok (.aload_n 0, 1) := by decide +kernel
theorem dX12_plainNumber_24 : decode bX12_plainNumber.2.1 24 = .ok (.invokevirtual 127, 3) := by decide +kernel
theorem dX12_plainNumber_27 : decode bX12_plainNumber.2.1 27 = .ok (.iadd, 1) := by decide +kernel
theorem dX12_plainNumber_28 : decode bX12_plainNumber.2.1 28 = .ok (.bipush 48, 2) := by decide +kernel
theorem dX12_plainNumber_30 : decode bX12_plainNumber.2.1 30 = .ok (.isub, 1) := by decide +kernel
theorem dX12_plainNumber_31 : decode bX12_plainNumber.2.1 31 = .ok (.istore_n 1, 1) := by decide +kernel
theorem dX12_plainNumber_32 : decode bX12_plainNumber.2.1 32 = .ok (.aload_n 0, 1) := by decide +kernel
theorem dX12_plainNumber_33 : decode bX12_plainNumber.2.1 33 = .ok (.dup, 1) := by decide +kernel
theorem dX12_plainNumber_34 : decode bX12_plainNumber.2.1 34 = .ok (.getfield 124, 3) := by decide +kernel
theorem dX12_plainNumber_37 : decode bX12_plainNumber.2.1 37 = .ok (.iconst 1, 1) := by decide +kernel
theorem dX12_plainNumber_38 : decode bX12_plainNumber.2.1 38 = .ok (.iadd, 1) := by decide +kernel
theorem dX12_plainNumber_39 : decode bX12_plainNumber.2.1 39 = .ok (.putfield 124, 3) := by decide +kernel
theorem dX12_plainNumber_42 : decode bX12_plainNumber.2.1 42 = .ok (.iinc 2 1, 3) := by decide +kernel
theorem dX12_plainNumber_45 : decode bX12_plainNumber.2.1 45 = .ok (.goto (-41), 3) := by decide +kernel
theorem dX12_plainNumber_48 : decode bX12_plainNumber.2.1 48 = .ok (.aload_n 0, 1) := by decide +kernel
theorem dX12_plainNumber_49 : decode bX12_plainNumber.2.1 49 = .ok (.invokevirtual 127, 3) := by decide +kernel
theorem dX12_plainNumber_52 : decode bX12_plainNumber.2.1 52 = .ok (.invokestatic 146, 3) := by decide +kernel
theorem dX12_plainNumber_55 : decode bX12_plainNumber.2.1 55 = .ok (.ifCond .eq 7, 3) := by decide +kernel
theorem dX12_plainNumber_58 : decode bX12_plainNumber.2.1 58 = .ok (.aload_n 0, 1) := by decide +kernel
theorem dX12_plainNumber_59 : decode bX12_plainNumber.2.1 59 = .ok (.invokevirtual 140, 3) := by decide +kernel
theorem dX12_plainNumber_62 : decode bX12_plainNumber.2.1 62 = .ok (.iload_n 1, 1) := by decide +kernel
theorem dX12_plainNumber_63 : decode bX12_plainNumber.2.1 63 = .ok (.ireturn, 1) := by decide +kernel
theorem dX12_atom_0 : decode bX12_atom.2.1 0 = .ok (.aload_n 0, 1) := by decide +kernel
theorem dX12_atom_1 : decode bX12_atom.2.1 1 = .ok (.invokevirtual 143, 3) := by decide +kernel
theorem dX12_atom_4 : decode bX12_atom.2.1 4 = .ok (.istore_n 1, 1) := by decide +kernel
theorem dX12_atom_5 : decode bX12_atom.2.1 5 = .ok (.iload_n 1, 1) := by decide +kernel
theorem dX12_atom_6 : decode bX12_atom.2.1 6 = .ok (.invokestatic 146, 3) := by decide +kernel
theorem dX12_atom_9 : decode bX12_atom.2.1 9 = .ok (.ifCond .eq 15, 3) := by decide +kernel
theorem dX12_atom_12 : decode bX12_atom.2.1 12 = .ok (.aload_n 0, 1) := by decide +kernel
theorem dX12_atom_13 : decode bX12_atom.2.1 13 = .ok (.iconst 0, 1) := by decide +kernel
theorem dX12_atom_14 : decode bX12_atom.2.1 14 = .ok (.aload_n 0, 1) := by decide +kernel
theorem dX12_atom_15 : decode bX12_atom.2.1 15 = .ok (.invokevirtual 150, 3) := by decide +kernel
theorem dX12_atom_18 : decode bX12_atom.2.1 18 = .ok (.invokevirtual 153, 3) := by decide +kernel
theorem dX12_atom_21 : decode bX12_atom.2.1 21 = .ok (.goto 68, 3) := by decide +kernel
theorem dX12_atom_24 : decode bX12_atom.2.1 24 = .ok (.iload_n 1, 1) := by decide +kernel
theorem dX12_atom_25 : decode bX12_atom.2.1 25 = .ok (.invokestatic 157, 3) := by decide +kernel
theorem dX12_atom_28 : decode bX12_atom.2.1 28 = .ok (.iconst (-1), 1) := by decide +kernel
theorem dX12_atom_29 : decode bX12_atom.2.1 29 = .ok (.if_icmp .eq 25, 3) := by decide +kernel
theorem dX12_atom_32 : decode bX12_atom.2.1 32 = .ok (.aload_n 0, 1) := by decide +kernel
theorem dX12_atom_33 : decode bX12_atom.2.1 33 = .ok (.dup, 1) := by decide +kernel
theorem dX12_atom_34 : decode bX12_atom.2.1 34 = .ok (.getfield 124, 3) := by decide +kernel
theorem dX12_atom_37 : decode bX12_atom.2.1 37 = .ok (.iconst 1, 1) := by decide +kernel
theorem dX12_atom_38 : decode bX12_atom.2.1 38 = .ok (.iadd, 1) := by decide +kernel
theorem dX12_atom_39 : decode bX12_atom.2.1 39 = .ok (.putfield 124, 3) := by decide +kernel
theorem dX12_atom_42 : decode bX12_atom.2.1 42 = .ok (.aload_n 0, 1) := by decide +kernel
theorem dX12_atom_43 : decode bX12_atom.2.1 43 = .ok (.iconst 1, 1) := by decide +kernel
theorem dX12_atom_44 : decode bX12_atom.2.1 44 = .ok (.iload_n 1, 1) := by decide +kernel
theorem dX12_atom_45 : decode bX12_atom.2.1 45 = .ok (.invokestatic 157, 3) := by decide +kernel
theorem dX12_atom_48 : decode bX12_atom.2.1 48 = .ok (.invokevirtual 153, 3) := by decide +kernel
theorem dX12_atom_51 : decode bX12_atom.2.1 51 = .ok (.goto 38, 3) := by decide +kernel
theorem dX12_atom_54 : decode bX12_atom.2.1 54 = .ok (.iload_n 1, 1) := by decide +kernel
theorem dX12_atom_55 : decode bX12_atom.2.1 55 = .ok (.bipush 91, 2) := by decide +kernel
theorem dX12_atom_57 : decode bX12_atom.2.1 57 = .ok (.if_icmp .ne 28, 3) := by decide +kernel
theorem dX12_atom_60 : decode bX12_atom.2.1 60 = .ok (.aload_n 0, 1) := by decide +kernel
theorem dX12_atom_61 : decode bX12_atom.2.1 61 = .ok (.invokevirtual 161, 3) := by decide +kernel
theorem dX12_atom_64 : decode bX12_atom.2.1 64 = .ok (.aload_n 0, 1) := by decide +kernel
theorem dX12_atom_65 : decode bX12_atom.2.1 65 = .ok (.getfield 131, 3) := by decide +kernel
theorem dX12_atom_68 : decode bX12_atom.2.1 68 = .ok (.iconst (-1), 1) := by decide +kernel
theorem dX12_atom_69 : decode bX12_atom.2.1 69 = .ok (.if_icmp .ne 20, 3) := by decide +kernel
theorem dX12_atom_72 : decode bX12_atom.2.1 72 = .ok (.aload_n 0, 1) := by decide +kernel
theorem dX12_atom_73 : decode bX12_atom.2.1 73 = .ok (.invokevirtual 164, 3) := by decide +kernel
theorem dX12_atom_76 : decode bX12_atom.2.1 76 = .ok (.aload_n 0, 1) := by decide +kernel
theorem dX12_atom_77 : decode bX12_atom.2.1 77 = .ok (.bipush 93, 2) := by decide +kernel
theorem dX12_atom_79 : decode bX12_atom.2.1 79 = .ok (.invokevirtual 167, 3) := by decide +kernel
theorem dX12_atom_82 : decode bX12_atom.2.1 82 = .ok (.goto 7, 3) := by decide +kernel
theorem dX12_atom_85 : decode bX12_atom.2.1 85 = .ok (.aload_n 0, 1) := by decide +kernel
theorem dX12_atom_86 : decode bX12_atom.2.1 86 = .ok (.invokevirtual 140, 3) := by decide +kernel
theorem dX12_atom_89 : decode bX12_atom.2.1 89 = .ok (.return_, 1) := by decide +kernel
theorem dX12_term_0 : decode bX12_term.2.1 0 = .ok (.aload_n 0, 1) := by decide +kernel
theorem dX12_term_1 : decode bX12_term.2.1 1 = .ok (.invokevirtual 171, 3) := by decide +kernel
theorem dX12_term_4 : decode bX12_term.2.1 4 = .ok (.aload_n 0, 1) := by decide +kernel
theorem dX12_term_5 : decode bX12_term.2.1 5 = .ok (.getfield 131, 3) := by decide +kernel
theorem dX12_term_8 : decode bX12_term.2.1 8 = .ok (.iconst (-1), 1) := by decide +kernel
theorem dX12_term_9 : decode bX12_term.2.1 9 = .ok (.if_icmp .ne 10, 3) := by decide +kernel
theorem dX12_term_12 : decode bX12_term.2.1 12 = .ok (.aload_n 0, 1) := by decide +kernel
theorem dX12_term_13 : decode bX12_term.2.1 13 = .ok (.invokevirtual 143, 3) := by decide +kernel
theorem dX12_term_16 : decode bX12_term.2.1 16 = .ok (.goto 4, 3) := by decide +kernel
theorem dX12_term_19 : decode bX12_term.2.1 19 = .ok (.iconst (-1), 1) := by decide +kernel
theorem dX12_term_20 : decode bX12_term.2.1 20 = .ok (.istore_n 1, 1) := by decide +kernel
theorem dX12_term_21 : decode bX12_term.2.1 21 = .ok (.iload_n 1, 1) := by decide +kernel
theorem dX12_term_22 : decode bX12_term.2.1 22 = .ok (.bipush 42, 2) := by decide +kernel
theorem dX12_term_24 : decode bX12_term.2.1 24 = .ok (.if_icmp .eq 9, 3) := by decide +kernel
theorem dX12_term_27 : decode bX12_term.2.1 27 = .ok (.iload_n 1, 1) := by decide +kernel
theorem dX12_term_28 : decode bX12_term.2.1 28 = .ok (.bipush 47, 2) := by decide +kernel
theorem dX12_term_30 : decode bX12_term.2.1 30 = .ok (.if_icmp .ne 53, 3) := by decide +kernel
theorem dX12_term_33 : decode bX12_term.2.1 33 = .ok (.aload_n 0, 1) := by decide +kernel
theorem dX12_term_34 : decode bX12_term.2.1 34 = .ok (.dup, 1) := by decide +kernel
theorem dX12_term_35 : decode bX12_term.2.1 35 = .ok (.getfield 124, 3) := by decide +kernel
theorem dX12_term_38 : decode bX12_term.2.1 38 = .ok (.iconst 1, 1) := by decide +kernel
theorem dX12_term_39 : decode bX12_term.2.1 39 = .ok (.iadd, 1) := by decide +kernel
theorem dX12_term_40 : decode bX12_term.2.1 40 = .ok (.putfield 124, 3) := by decide +kernel
theorem dX12_term_43 : decode bX12_term.2.1 43 = .ok (.aload_n 0, 1) := by decide +kernel
theorem dX12_term_44 : decode bX12_term.2.1 44 = .ok (.invokevirtual 171, 3) := by decide +kernel
theorem dX12_term_47 : decode bX12_term.2.1 47 = .ok (.aload_n 0, 1) := by decide +kernel
theorem dX12_term_48 : decode bX12_term.2.1 48 = .ok (.iload_n 1, 1) := by decide +kernel
theorem dX12_term_49 : decode bX12_term.2.1 49 = .ok (.bipush 42, 2) := by decide +kernel
theorem dX12_term_51 : decode bX12_term.2.1 51 = .ok (.if_icmp .ne 7, 3) := by decide +kernel
theorem dX12_term_54 : decode bX12_term.2.1 54 = .ok (.iconst 4, 1) := by decide +kernel
theorem dX12_term_55 : decode bX12_term.2.1 55 = .ok (.goto 4, 3) := by decide +kernel
theorem dX12_term_58 : decode bX12_term.2.1 58 = .ok (.iconst 5, 1) := by decide +kernel
theorem dX12_term_59 : decode bX12_term.2.1 59 = .ok (.iconst 0, 1) := by decide +kernel
theorem dX12_term_60 : decode bX12_term.2.1 60 = .ok (.invokevirtual 153, 3) := by decide +kernel
theorem dX12_term_63 : decode bX12_term.2.1 63 = .ok (.aload_n 0, 1) := by decide +kernel
theorem dX12_term_64 : decode bX12_term.2.1 64 = .ok (.getfield 131, 3) := by decide +kernel
theorem dX12_term_67 : decode bX12_term.2.1 67 = .ok (.iconst (-1), 1) := by decide +kernel
theorem dX12_term_68 : decode bX12_term.2.1 68 = .ok (.if_icmp .ne 10, 3) := by decide +kernel
theorem dX12_term_71 : decode bX12_term.2.1 71 = .ok (.aload_n 0, 1) := by decide +kernel
theorem dX12_term_72 : decode bX12_term.2.1 72 = .ok (.invokevirtual 143, 3) := by decide +kernel
theorem dX12_term_75 : decode bX12_term.2.1 75 = .ok (.goto 4, 3) := by decide +kernel
theorem dX12_term_78 : decode bX12_term.2.1 78 = .ok (.iconst (-1), 1) := by decide +kernel
theorem dX12_term_79 : decode bX12_term.2.1 79 = .ok (.istore_n 1, 1) := by decide +kernel
theorem dX12_term_80 : decode bX12_term.2.1 80 = .ok (.goto (-59), 3) := by decide +kernel
theorem dX12_term_83 : decode bX12_term.2.1 83 = .ok (.return_, 1) := by decide +kernel
theorem dX12_sum_0 : decode bX12_sum.2.1 0 = .ok (.aload_n 0, 1) := by decide +kernel
theorem dX12_sum_1 : decode bX12_sum.2.1 1 = .ok (.invokevirtual 174, 3) := by decide +kernel
theorem dX12_sum_4 : decode bX12_sum.2.1 4 = .ok (.aload_n 0, 1) := by decide +kernel
theorem dX12_sum_5 : decode bX12_sum.2.1 5 = .ok (.getfield 131, 3) := by decide +kernel
theorem dX12_sum_8 : decode bX12_sum.2.1 8 = .ok (.iconst (-1), 1) := by decide +kernel
theorem dX12_sum_9 : decode bX12_sum.2.1 9 = .ok (.if_icmp .ne 10, 3) := by decide +kernel
theorem dX12_sum_12 : decode bX12_sum.2.1 12 = .ok (.aload_n 0, 1) := by decide +kernel
theorem dX12_sum_13 : decode bX12_sum.2.1 13 = .ok (.invokevirtual 143, 3) := by decide +kernel
theorem dX12_sum_16 : decode bX12_sum.2.1 16 = .ok (.goto 4, 3) := by decide +kernel
theorem dX12_sum_19 : decode bX12_sum.2.1 19 = .ok (.iconst (-1), 1) := by decide +kernel
theorem dX12_sum_20 : decode bX12_sum.2.1 20 = .ok (.istore_n 1, 1) := by decide +kernel
theorem dX12_sum_21 : decode bX12_sum.2.1 21 = .ok (.iload_n 1, 1) := by decide +kernel
theorem dX12_sum_22 : decode bX12_sum.2.1 22 = .ok (.bipush 43, 2) := by decide +kernel
theorem dX12_sum_24 : decode bX12_sum.2.1 24 = .ok (.if_icmp .eq 9, 3) := by decide +kernel
theorem dX12_sum_27 : decode bX12_sum.2.1 27 = .ok (.iload_n 1, 1) := by decide +kernel
theorem dX12_sum_28 : decode bX12_sum.2.1 28 = .ok (.bipush 45, 2) := by decide +kernel
theorem dX12_sum_30 : decode bX12_sum.2.1 30 = .ok (.if_icmp .ne 53, 3) := by decide +kernel
theorem dX12_sum_33 : decode bX12_sum.2.1 33 = .ok (.aload_n 0, 1) := by decide +kernel
theorem dX12_sum_34 : decode bX12_sum.2.1 34 = .ok (.dup, 1) := by decide +kernel
theorem dX12_sum_35 : decode bX12_sum.2.1 35 = .ok (.getfield 124, 3) := by decide +kernel
theorem dX12_sum_38 : decode bX12_sum.2.1 38 = .ok (.iconst 1, 1) := by decide +kernel
theorem dX12_sum_39 : decode bX12_sum.2.1 39 = .ok (.iadd, 1) := by decide +kernel
theorem dX12_sum_40 : decode bX12_sum.2.1 40 = .ok (.putfield 124, 3) := by decide +kernel
theorem dX12_sum_43 : decode bX12_sum.2.1 43 = .ok (.aload_n 0, 1) := by decide +kernel
theorem dX12_sum_44 : decode bX12_sum.2.1 44 = .ok (.invokevirtual 174, 3) := by decide +kernel
theorem dX12_sum_47 : decode bX12_sum.2.1 47 = .ok (.aload_n 0, 1) := by decide +kernel
theorem dX12_sum_48 : decode bX12_sum.2.1 48 = .ok (.iload_n 1, 1) := by decide +kernel
theorem dX12_sum_49 : decode bX12_sum.2.1 49 = .ok (.bipush 43, 2) := by decide +kernel
theorem dX12_sum_51 : decode bX12_sum.2.1 51 = .ok (.if_icmp .ne 7, 3) := by decide +kernel
theorem dX12_sum_54 : decode bX12_sum.2.1 54 = .ok (.iconst 2, 1) := by decide +kernel
theorem dX12_sum_55 : decode bX12_sum.2.1 55 = .ok (.goto 4, 3) := by decide +kernel
theorem dX12_sum_58 : decode bX12_sum.2.1 58 = .ok (.iconst 3, 1) := by decide +kernel
theorem dX12_sum_59 : decode bX12_sum.2.1 59 = .ok (.iconst 0, 1) := by decide +kernel
theorem dX12_sum_60 : decode bX12_sum.2.1 60 = .ok (.invokevirtual 153, 3) := by decide +kernel
theorem dX12_sum_63 : decode bX12_sum.2.1 63 = .ok (.aload_n 0, 1) := by decide +kernel
theorem dX12_sum_64 : decode bX12_sum.2.1 64 = .ok (.getfield 131, 3) := by decide +kernel
theorem dX12_sum_67 : decode bX12_sum.2.1 67 = .ok (.iconst (-1), 1) := by decide +kernel
theorem dX12_sum_68 : decode bX12_sum.2.1 68 = .ok (.if_icmp .ne 10, 3) := by decide +kernel
theorem dX12_sum_71 : decode bX12_sum.2.1 71 = .ok (.aload_n 0, 1) := by decide +kernel
theorem dX12_sum_72 : decode bX12_sum.2.1 72 = .ok (.invokevirtual 143, 3) := by decide +kernel
theorem dX12_sum_75 : decode bX12_sum.2.1 75 = .ok (.goto 4, 3) := by decide +kernel
theorem dX12_sum_78 : decode bX12_sum.2.1 78 = .ok (.iconst (-1), 1) := by decide +kernel
theorem dX12_sum_79 : decode bX12_sum.2.1 79 = .ok (.istore_n 1, 1) := by decide +kernel
theorem dX12_sum_80 : decode bX12_sum.2.1 80 = .ok (.goto (-59), 3) := by decide +kernel
theorem dX12_sum_83 : decode bX12_sum.2.1 83 = .ok (.return_, 1) := by decide +kernel
theorem dX12_isSign_0 : decode bX12_isSign.2.1 0 = .ok (.iload_n 0, 1) := by decide +kernel
theorem dX12_isSign_1 : decode bX12_isSign.2.1 1 = .ok (.bipush 61, 2) := by decide +kernel
theorem dX12_isSign_3 : decode bX12_isSign.2.1 3 = .ok (.if_icmp .eq 15, 3) := by decide +kernel
theorem dX12_isSign_6 : decode bX12_isSign.2.1 6 = .ok (.iload_n 0, 1) := by decide +kernel
theorem dX12_isSign_7 : decode bX12_isSign.2.1 7 = .ok (.bipush 60, 2) := by decide +kernel
theorem dX12_isSign_9 : decode bX12_isSign.2.1 9 = .ok (.if_icmp .eq 9, 3) := by decide +kernel
theorem dX12_isSign_12 : decode bX12_isSign.2.1 12 = .ok (.iload_n 0, 1) := by decide +kernel
theorem dX12_isSign_13 : decode bX12_isSign.2.1 13 = .ok (.bipush 62, 2) := by decide +kernel
theorem dX12_isSign_15 : decode bX12_isSign.2.1 15 = .ok (.if_icmp .ne 7, 3) := by decide +kernel
theorem dX12_isSign_18 : decode bX12_isSign.2.1 18 = .ok (.iconst 1, 1) := by decide +kernel
theorem dX12_isSign_19 : decode bX12_isSign.2.1 19 = .ok (.goto 4, 3) := by decide +kernel
theorem dX12_isSign_22 : decode bX12_isSign.2.1 22 = .ok (.iconst 0, 1) := by decide +kernel
theorem dX12_isSign_23 : decode bX12_isSign.2.1 23 = .ok (.ireturn, 1) := by decide +kernel
theorem dX12_compare_0 : decode bX12_compare.2.1 0 = .ok (.aload_n 0, 1) := by decide +kernel
theorem dX12_compare_1 : decode bX12_compare.2.1 1 = .ok (.getfield 131, 3) := by decide +kernel
theorem dX12_compare_4 : decode bX12_compare.2.1 4 = .ok (.iconst (-1), 1) := by decide +kernel
theorem dX12_compare_5 : decode bX12_compare.2.1 5 = .ok (.if_icmp .ne 10, 3) := by decide +kernel
theorem dX12_compare_8 : decode bX12_compare.2.1 8 = .ok (.aload_n 0, 1) := by decide +kernel
theorem dX12_compare_9 : decode bX12_compare.2.1 9 = .ok (.invokevirtual 143, 3) := by decide +kernel
theorem dX12_compare_12 : decode bX12_compare.2.1 12 = .ok (.goto 4, 3) := by decide +kernel
theorem dX12_compare_15 : decode bX12_compare.2.1 15 = .ok (.iconst (-1), 1) := by decide +kernel
theorem dX12_compare_16 : decode bX12_compare.2.1 16 = .ok (.istore_n 1, 1) := by decide +kernel
theorem dX12_compare_17 : decode bX12_compare.2.1 17 = .ok (.iload_n 1, 1) := by decide +kernel
theorem dX12_compare_18 : decode bX12_compare.2.1 18 = .ok (.invokestatic 177, 3) := by decide +kernel
theorem dX12_compare_21 : decode bX12_compare.2.1 21 = .ok (.ifCond .ne 8, 3) := by decide +kernel
theorem dX12_compare_24 : decode bX12_compare.2.1 24 = .ok (.aload_n 0, 1) := by decide +kernel
theorem dX12_compare_25 : decode bX12_compare.2.1 25 = .ok (.invokevirtual 140, 3) := by decide +kernel
theorem dX12_compare_28 : decode bX12_compare.2.1 28 = .ok (.return_, 1) := by decide +kernel
theorem dX12_compare_29 : decode bX12_compare.2.1 29 = .ok (.aload_n 0, 1) := by decide +kernel
theorem dX12_compare_30 : decode bX12_compare.2.1 30 = .ok (.dup, 1) := by decide +kernel
theorem dX12_compare_31 : decode bX12_compare.2.1 31 = .ok (.getfield 124, 3) := by decide +kernel
theorem dX12_compare_34 : decode bX12_compare.2.1 34 = .ok (.iconst 1, 1) := by decide +kernel
theorem dX12_compare_35 : decode bX12_compare.2.1 35 = .ok (.iadd, 1) := by decide +kernel
theorem dX12_compare_36 : decode bX12_compare.2.1 36 = .ok (.putfield 124, 3) := by decide +kernel
theorem dX12_compare_39 : decode bX12_compare.2.1 39 = .ok (.aload_n 0, 1) := by decide +kernel
theorem dX12_compare_40 : decode bX12_compare.2.1 40 = .ok (.invokevirtual 164, 3) := by decide +kernel
theorem dX12_compare_43 : decode bX12_compare.2.1 43 = .ok (.aload_n 0, 1) := by decide +kernel
theorem dX12_compare_44 : decode bX12_compare.2.1 44 = .ok (.iload_n 1, 1) := by decide +kernel
theorem dX12_compare_45 : decode bX12_compare.2.1 45 = .ok (.bipush 61, 2) := by decide +kernel
theorem dX12_compare_47 : decode bX12_compare.2.1 47 = .ok (.if_icmp .ne 8, 3) := by decide +kernel
theorem dX12_compare_50 : decode bX12_compare.2.1 50 = .ok (.bipush 6, 2) := by decide +kernel
theorem dX12_compare_52 : decode bX12_compare.2.1 52 = .ok (.goto 16, 3) := by decide +kernel
theorem dX12_compare_55 : decode bX12_compare.2.1 55 = .ok (.iload_n 1, 1) := by decide +kernel
theorem dX12_compare_56 : decode bX12_compare.2.1 56 = .ok (.bipush 60, 2) := by decide +kernel
theorem dX12_compare_58 : decode bX12_compare.2.1 58 = .ok (.if_icmp .ne 8, 3) := by decide +kernel
theorem dX12_compare_61 : decode bX12_compare.2.1 61 = .ok (.bipush 7, 2) := by decide +kernel
theorem dX12_compare_63 : decode bX12_compare.2.1 63 = .ok (.goto 5, 3) := by decide +kernel
theorem dX12_compare_66 : decode bX12_compare.2.1 66 = .ok (.bipush 8, 2) := by decide +kernel
theorem dX12_compare_68 : decode bX12_compare.2.1 68 = .ok (.iconst 0, 1) := by decide +kernel
theorem dX12_compare_69 : decode bX12_compare.2.1 69 = .ok (.invokevirtual 153, 3) := by decide +kernel
theorem dX12_compare_72 : decode bX12_compare.2.1 72 = .ok (.return_, 1) := by decide +kernel
theorem dX12_unit_0 : decode bX12_unit.2.1 0 = .ok (.aload_n 0, 1) := by decide +kernel
theorem dX12_unit_1 : decode bX12_unit.2.1 1 = .ok (.invokevirtual 143, 3) := by decide +kernel
theorem dX12_unit_4 : decode bX12_unit.2.1 4 = .ok (.istore_n 1, 1) := by decide +kernel
theorem dX12_unit_5 : decode bX12_unit.2.1 5 = .ok (.iload_n 1, 1) := by decide +kernel
theorem dX12_unit_6 : decode bX12_unit.2.1 6 = .ok (.bipush 33, 2) := by decide +kernel
theorem dX12_unit_8 : decode bX12_unit.2.1 8 = .ok (.if_icmp .ne 39, 3) := by decide +kernel
theorem dX12_unit_11 : decode bX12_unit.2.1 11 = .ok (.aload_n 0, 1) := by decide +kernel
theorem dX12_unit_12 : decode bX12_unit.2.1 12 = .ok (.invokevirtual 161, 3) := by decide +kernel
theorem dX12_unit_15 : decode bX12_unit.2.1 15 = .ok (.aload_n 0, 1) := by decide +kernel
theorem dX12_unit_16 : decode bX12_unit.2.1 16 = .ok (.getfield 131, 3) := by decide +kernel
theorem dX12_unit_19 : decode bX12_unit.2.1 19 = .ok (.iconst (-1), 1) := by decide +kernel
theorem dX12_unit_20 : decode bX12_unit.2.1 20 = .ok (.if_icmp .ne 74, 3) := by decide +kernel
theorem dX12_unit_23 : decode bX12_unit.2.1 23 = .ok (.aload_n 0, 1) := by decide +kernel
theorem dX12_unit_24 : decode bX12_unit.2.1 24 = .ok (.invokevirtual 180, 3) := by decide +kernel
theorem dX12_unit_27 : decode bX12_unit.2.1 27 = .ok (.aload_n 0, 1) := by decide +kernel
theorem dX12_unit_28 : decode bX12_unit.2.1 28 = .ok (.bipush 9, 2) := by decide +kernel
theorem dX12_unit_30 : decode bX12_unit.2.1 30 = .ok (.iconst 0, 1) := by decide +kernel
theorem dX12_unit_31 : decode bX12_unit.2.1 31 = .ok (.invokevirtual 153, 3) := by decide +kernel
theorem dX12_unit_34 : decode bX12_unit.2.1 34 = .ok (.aload_n 0, 1) := by decide +kernel
theorem dX12_unit_35 : decode bX12_unit.2.1 35 = .ok (.dup, 1) := by decide +kernel
theorem dX12_unit_36 : decode bX12_unit.2.1 36 = .ok (.getfield 137, 3) := by decide +kernel
theorem dX12_unit_39 : decode bX12_unit.2.1 39 = .ok (.iconst 1, 1) := by decide +kernel
theorem dX12_unit_40 : decode bX12_unit.2.1 40 = .ok (.isub, 1) := by decide +kernel
theorem dX12_unit_41 : decode bX12_unit.2.1 41 = .ok (.putfield 137, 3) := by decide +kernel
theorem dX12_unit_44 : decode bX12_unit.2.1 44 = .ok (.goto 50, 3) := by decide +kernel
theorem dX12_unit_47 : decode bX12_unit.2.1 47 = .ok (.iload_n 1, 1) := by decide +kernel
theorem dX12_unit_48 : decode bX12_unit.2.1 48 = .ok (.bipush 40, 2) := by decide +kernel
theorem dX12_unit_50 : decode bX12_unit.2.1 50 = .ok (.if_icmp .ne 28, 3) := by decide +kernel
theorem dX12_unit_53 : decode bX12_unit.2.1 53 = .ok (.aload_n 0, 1) := by decide +kernel
theorem dX12_unit_54 : decode bX12_unit.2.1 54 = .ok (.invokevirtual 161, 3) := by decide +kernel
theorem dX12_unit_57 : decode bX12_unit.2.1 57 = .ok (.aload_n 0, 1) := by decide +kernel
theorem dX12_unit_58 : decode bX12_unit.2.1 58 = .ok (.getfield 131, 3) := by decide +kernel
theorem dX12_unit_61 : decode bX12_unit.2.1 61 = .ok (.iconst (-1), 1) := by decide +kernel
theorem dX12_unit_62 : decode bX12_unit.2.1 62 = .ok (.if_icmp .ne 32, 3) := by decide +kernel
theorem dX12_unit_65 : decode bX12_unit.2.1 65 = .ok (.aload_n 0, 1) := by decide +kernel
theorem dX12_unit_66 : decode bX12_unit.2.1 66 = .ok (.invokevirtual 183, 3) := by decide +kernel
theorem dX12_unit_69 : decode bX12_unit.2.1 69 = .ok (.aload_n 0, 1) := by decide +kernel
theorem dX12_unit_70 : decode bX12_unit.2.1 70 = .ok (.bipush 41, 2) := by decide +kernel
theorem dX12_unit_72 : decode bX12_unit.2.1 72 = .ok (.invokevirtual 167, 3) := by decide +kernel
theorem dX12_unit_75 : decode bX12_unit.2.1 75 = .ok (.goto 19, 3) := by decide +kernel
theorem dX12_unit_78 : decode bX12_unit.2.1 78 = .ok (.aload_n 0, 1) := by decide +kernel
theorem dX12_unit_79 : decode bX12_unit.2.1 79 = .ok (.invokevirtual 164, 3) := by decide +kernel
theorem dX12_unit_82 : decode bX12_unit.2.1 82 = .ok (.aload_n 0, 1) := by decide +kernel
theorem dX12_unit_83 : decode bX12_unit.2.1 83 = .ok (.getfield 131, 3) := by decide +kernel
theorem dX12_unit_86 : decode bX12_unit.2.1 86 = .ok (.iconst (-1), 1) := by decide +kernel
theorem dX12_unit_87 : decode bX12_unit.2.1 87 = .ok (.if_icmp .ne 7, 3) := by decide +kernel
theorem dX12_unit_90 : decode bX12_unit.2.1 90 = .ok (.aload_n 0, 1) := by decide +kernel
theorem dX12_unit_91 : decode bX12_unit.2.1 91 = .ok (.invokevirtual 186, 3) := by decide +kernel
theorem dX12_unit_94 : decode bX12_unit.2.1 94 = .ok (.return_, 1) := by decide +kernel
theorem dX12_goOnAnd_0 : decode bX12_goOnAnd.2.1 0 = .ok (.aload_n 0, 1) := by decide +kernel
theorem dX12_goOnAnd_1 : decode bX12_goOnAnd.2.1 1 = .ok (.getfield 131, 3) := by decide +kernel
theorem dX12_goOnAnd_4 : decode bX12_goOnAnd.2.1 4 = .ok (.iconst (-1), 1) := by decide +kernel
theorem dX12_goOnAnd_5 : decode bX12_goOnAnd.2.1 5 = .ok (.if_icmp .ne 36, 3) := by decide +kernel
theorem dX12_goOnAnd_8 : decode bX12_goOnAnd.2.1 8 = .ok (.aload_n 0, 1) := by decide +kernel
theorem dX12_goOnAnd_9 : decode bX12_goOnAnd.2.1 9 = .ok (.invokevirtual 143, 3) := by decide +kernel
theorem dX12_goOnAnd_12 : decode bX12_goOnAnd.2.1 12 = .ok (.bipush 38, 2) := by decide +kernel
theorem dX12_goOnAnd_14 : decode bX12_goOnAnd.2.1 14 = .ok (.if_icmp .ne 27, 3) := by decide +kernel
theorem dX12_goOnAnd_17 : decode bX12_goOnAnd.2.1 17 = .ok (.aload_n 0, 1) := by decide +kernel
theorem dX12_goOnAnd_18 : decode bX12_goOnAnd.2.1 18 = .ok (.dup, 1) := by decide +kernel
theorem dX12_goOnAnd_19 : decode bX12_goOnAnd.2.1 19 = .ok (.getfield 124, 3) := by decide +kernel
theorem dX12_goOnAnd_22 : decode bX12_goOnAnd.2.1 22 = .ok (.iconst 1, 1) := by decide +kernel
theorem dX12_goOnAnd_23 : decode bX12_goOnAnd.2.1 23 = .ok (.iadd, 1) := by decide +kernel
theorem dX12_goOnAnd_24 : decode bX12_goOnAnd.2.1 24 = .ok (.putfield 124, 3) := by decide +kernel
theorem dX12_goOnAnd_27 : decode bX12_goOnAnd.2.1 27 = .ok (.aload_n 0, 1) := by decide +kernel
theorem dX12_goOnAnd_28 : decode bX12_goOnAnd.2.1 28 = .ok (.invokevirtual 180, 3) := by decide +kernel
theorem dX12_goOnAnd_31 : decode bX12_goOnAnd.2.1 31 = .ok (.aload_n 0, 1) := by decide +kernel
theorem dX12_goOnAnd_32 : decode bX12_goOnAnd.2.1 32 = .ok (.bipush 10, 2) := by decide +kernel
theorem dX12_goOnAnd_34 : decode bX12_goOnAnd.2.1 34 = .ok (.iconst 0, 1) := by decide +kernel
theorem dX12_goOnAnd_35 : decode bX12_goOnAnd.2.1 35 = .ok (.invokevirtual 153, 3) := by decide +kernel
theorem dX12_goOnAnd_38 : decode bX12_goOnAnd.2.1 38 = .ok (.goto (-38), 3) := by decide +kernel
theorem dX12_goOnAnd_41 : decode bX12_goOnAnd.2.1 41 = .ok (.return_, 1) := by decide +kernel
theorem dX12_goOnOr_0 : decode bX12_goOnOr.2.1 0 = .ok (.aload_n 0, 1) := by decide +kernel
theorem dX12_goOnOr_1 : decode bX12_goOnOr.2.1 1 = .ok (.getfield 131, 3) := by decide +kernel
theorem dX12_goOnOr_4 : decode bX12_goOnOr.2.1 4 = .ok (.iconst (-1), 1) := by decide +kernel
theorem dX12_goOnOr_5 : decode bX12_goOnOr.2.1 5 = .ok (.if_icmp .ne 40, 3) := by decide +kernel
theorem dX12_goOnOr_8 : decode bX12_goOnOr.2.1 8 = .ok (.aload_n 0, 1) := by decide +kernel
theorem dX12_goOnOr_9 : decode bX12_goOnOr.2.1 9 = .ok (.invokevirtual 143, 3) := by decide +kernel
theorem dX12_goOnOr_12 : decode bX12_goOnOr.2.1 12 = .ok (.bipush 124, 2) := by decide +kernel
theorem dX12_goOnOr_14 : decode bX12_goOnOr.2.1 14 = .ok (.if_icmp .ne 31, 3) := by decide +kernel
theorem dX12_goOnOr_17 : decode bX12_goOnOr.2.1 17 = .ok (.aload_n 0, 1) := by decide +kernel
theorem dX12_goOnOr_18 : decode bX12_goOnOr.2.1 18 = .ok (.dup, 1) := by decide +kernel
theorem dX12_goOnOr_19 : decode bX12_goOnOr.2.1 19 = .ok (.getfield 124, 3) := by decide +kernel
theorem dX12_goOnOr_22 : decode bX12_goOnOr.2.1 22 = .ok (.iconst 1, 1) := by decide +kernel
theorem dX12_goOnOr_23 : decode bX12_goOnOr.2.1 23 = .ok (.iadd, 1) := by decide +kernel
theorem dX12_goOnOr_24 : decode bX12_goOnOr.2.1 24 = .ok (.putfield 124, 3) := by decide +kernel
theorem dX12_goOnOr_27 : decode bX12_goOnOr.2.1 27 = .ok (.aload_n 0, 1) := by decide +kernel
theorem dX12_goOnOr_28 : decode bX12_goOnOr.2.1 28 = .ok (.invokevirtual 180, 3) := by decide +kernel
theorem dX12_goOnOr_31 : decode bX12_goOnOr.2.1 31 = .ok (.aload_n 0, 1) := by decide +kernel
theorem dX12_goOnOr_32 : decode bX12_goOnOr.2.1 32 = .ok (.invokevirtual 189, 3) := by decide +kernel
theorem dX12_goOnOr_35 : decode bX12_goOnOr.2.1 35 = .ok (.aload_n 0, 1) := by decide +kernel
theorem dX12_goOnOr_36 : decode bX12_goOnOr.2.1 36 = .ok (.bipush 11, 2) := by decide +kernel
theorem dX12_goOnOr_38 : decode bX12_goOnOr.2.1 38 = .ok (.iconst 0, 1) := by decide +kernel
theorem dX12_goOnOr_39 : decode bX12_goOnOr.2.1 39 = .ok (.invokevirtual 153, 3) := by decide +kernel
theorem dX12_goOnOr_42 : decode bX12_goOnOr.2.1 42 = .ok (.goto (-42), 3) := by decide +kernel
theorem dX12_goOnOr_45 : decode bX12_goOnOr.2.1 45 = .ok (.return_, 1) := by decide +kernel
theorem dX12_condition_0 : decode bX12_condition.2.1 0 = .ok (.aload_n 0, 1) := by decide +kernel
theorem dX12_condition_1 : decode bX12_condition.2.1 1 = .ok (.invokevirtual 180, 3) := by decide +kernel
theorem dX12_condition_4 : decode bX12_condition.2.1 4 = .ok (.aload_n 0, 1) := by decide +kernel
theorem dX12_condition_5 : decode bX12_condition.2.1 5 = .ok (.invokevirtual 189, 3) := by decide +kernel
theorem dX12_condition_8 : decode bX12_condition.2.1 8 = .ok (.aload_n 0, 1) := by decide +kernel
theorem dX12_condition_9 : decode bX12_condition.2.1 9 = .ok (.invokevirtual 192, 3) := by decide +kernel
theorem dX12_condition_12 : decode bX12_condition.2.1 12 = .ok (.return_, 1) := by decide +kernel
theorem dX12_clause_0 : decode bX12_clause.2.1 0 = .ok (.bipush 90, 2) := by decide +kernel
theorem dX12_clause_2 : decode bX12_clause.2.1 2 = .ok (.aload_n 0, 1) := by decide +kernel
theorem dX12_clause_3 : decode bX12_clause.2.1 3 = .ok (.getfield 134, 3) := by decide +kernel
theorem dX12_clause_6 : decode bX12_clause.2.1 6 = .ok (.imul, 1) := by decide +kernel
theorem dX12_clause_7 : decode bX12_clause.2.1 7 = .ok (.aload_n 0, 1) := by decide +kernel
theorem dX12_clause_8 : decode bX12_clause.2.1 8 = .ok (.getfield 22, 3) := by decide +kernel
theorem dX12_clause_11 : decode bX12_clause.2.1 11 = .ok (.aload_n 0, 1) := by decide +kernel
theorem dX12_clause_12 : decode bX12_clause.2.1 12 = .ok (.getfield 134, 3) := by decide +kernel
theorem dX12_clause_15 : decode bX12_clause.2.1 15 = .ok (.iaload, 1) := by decide +kernel
theorem dX12_clause_16 : decode bX12_clause.2.1 16 = .ok (.iadd, 1) := by decide +kernel
theorem dX12_clause_17 : decode bX12_clause.2.1 17 = .ok (.istore_n 1, 1) := by decide +kernel
theorem dX12_clause_18 : decode bX12_clause.2.1 18 = .ok (.aload_n 0, 1) := by decide +kernel
theorem dX12_clause_19 : decode bX12_clause.2.1 19 = .ok (.getfield 131, 3) := by decide +kernel
theorem dX12_clause_22 : decode bX12_clause.2.1 22 = .ok (.iconst (-1), 1) := by decide +kernel
theorem dX12_clause_23 : decode bX12_clause.2.1 23 = .ok (.if_icmp .ne 16, 3) := by decide +kernel
theorem dX12_clause_26 : decode bX12_clause.2.1 26 = .ok (.aload_n 0, 1) := by decide +kernel
theorem dX12_clause_27 : decode bX12_clause.2.1 27 = .ok (.invokevirtual 143, 3) := by decide +kernel
theorem dX12_clause_30 : decode bX12_clause.2.1 30 = .ok (.bipush 121, 2) := by decide +kernel
theorem dX12_clause_32 : decode bX12_clause.2.1 32 = .ok (.if_icmp .eq 7, 3) := by decide +kernel
theorem dX12_clause_35 : decode bX12_clause.2.1 35 = .ok (.aload_n 0, 1) := by decide +kernel
theorem dX12_clause_36 : decode bX12_clause.2.1 36 = .ok (.invokevirtual 140, 3) := by decide +kernel
theorem dX12_clause_39 : decode bX12_clause.2.1 39 = .ok (.aload_n 0, 1) := by decide +kernel
theorem dX12_clause_40 : decode bX12_clause.2.1 40 = .ok (.dup, 1) := by decide +kernel
theorem dX12_clause_41 : decode bX12_clause.2.1 41 = .ok (.getfield 124, 3) := by decide +kernel
theorem dX12_clause_44 : decode bX12_clause.2.1 44 = .ok (.iconst 1, 1) := by decide +kernel
theorem dX12_clause_45 : decode bX12_clause.2.1 45 = .ok (.iadd, 1) := by decide +kernel
theorem dX12_clause_46 : decode bX12_clause.2.1 46 = .ok (.putfield 124, 3) := by decide +kernel
theorem dX12_clause_49 : decode bX12_clause.2.1 49 = .ok (.aload_n 0, 1) := by decide +kernel
theorem dX12_clause_50 : decode bX12_clause.2.1 50 = .ok (.getfield 131, 3) := by decide +kernel
theorem dX12_clause_53 : decode bX12_clause.2.1 53 = .ok (.iconst (-1), 1) := by decide +kernel
theorem dX12_clause_54 : decode bX12_clause.2.1 54 = .ok (.if_icmp .ne 16, 3) := by decide +kernel
theorem dX12_clause_57 : decode bX12_clause.2.1 57 = .ok (.aload_n 0, 1) := by decide +kernel
theorem dX12_clause_58 : decode bX12_clause.2.1 58 = .ok (.invokevirtual 143, 3) := by decide +kernel
theorem dX12_clause_61 : decode bX12_clause.2.1 61 = .ok (.bipush 58, 2) := by decide +kernel
theorem dX12_clause_63 : decode bX12_clause.2.1 63 = .ok (.if_icmp .eq 7, 3) := by decide +kernel
theorem dX12_clause_66 : decode bX12_clause.2.1 66 = .ok (.aload_n 0, 1) := by decide +kernel
theorem dX12_clause_67 : decode bX12_clause.2.1 67 = .ok (.invokevirtual 140, 3) := by decide +kernel
theorem dX12_clause_70 : decode bX12_clause.2.1 70 = .ok (.aload_n 0, 1) := by decide +kernel
theorem dX12_clause_71 : decode bX12_clause.2.1 71 = .ok (.dup, 1) := by decide +kernel
theorem dX12_clause_72 : decode bX12_clause.2.1 72 = .ok (.getfield 124, 3) := by decide +kernel
theorem dX12_clause_75 : decode bX12_clause.2.1 75 = .ok (.iconst 1, 1) := by decide +kernel
theorem dX12_clause_76 : decode bX12_clause.2.1 76 = .ok (.iadd, 1) := by decide +kernel
theorem dX12_clause_77 : decode bX12_clause.2.1 77 = .ok (.putfield 124, 3) := by decide +kernel
theorem dX12_clause_80 : decode bX12_clause.2.1 80 = .ok (.aload_n 0, 1) := by decide +kernel
theorem dX12_clause_81 : decode bX12_clause.2.1 81 = .ok (.getfield 131, 3) := by decide +kernel
theorem dX12_clause_84 : decode bX12_clause.2.1 84 = .ok (.iconst (-1), 1) := by decide +kernel
theorem dX12_clause_85 : decode bX12_clause.2.1 85 = .ok (.if_icmp .eq 4, 3) := by decide +kernel
theorem dX12_clause_88 : decode bX12_clause.2.1 88 = .ok (.return_, 1) := by decide +kernel
theorem dX12_clause_89 : decode bX12_clause.2.1 89 = .ok (.aload_n 0, 1) := by decide +kernel
theorem dX12_clause_90 : decode bX12_clause.2.1 90 = .ok (.getfield 25, 3) := by decide +kernel
theorem dX12_clause_93 : decode bX12_clause.2.1 93 = .ok (.iload_n 1, 1) := by decide +kernel
theorem dX12_clause_94 : decode bX12_clause.2.1 94 = .ok (.aload_n 0, 1) := by decide +kernel
theorem dX12_clause_95 : decode bX12_clause.2.1 95 = .ok (.getfield 19, 3) := by decide +kernel
theorem dX12_clause_98 : decode bX12_clause.2.1 98 = .ok (.aload_n 0, 1) := by decide +kernel
theorem dX12_clause_99 : decode bX12_clause.2.1 99 = .ok (.getfield 134, 3) := by decide +kernel
theorem dX12_clause_102 : decode bX12_clause.2.1 102 = .ok (.iaload, 1) := by decide +kernel
theorem dX12_clause_103 : decode bX12_clause.2.1 103 = .ok (.iastore, 1) := by decide +kernel
theorem dX12_clause_104 : decode bX12_clause.2.1 104 = .ok (.aload_n 0, 1) := by decide +kernel
theorem dX12_clause_105 : decode bX12_clause.2.1 105 = .ok (.invokevirtual 143, 3) := by decide +kernel
theorem dX12_clause_108 : decode bX12_clause.2.1 108 = .ok (.bipush 33, 2) := by decide +kernel
theorem dX12_clause_110 : decode bX12_clause.2.1 110 = .ok (.if_icmp .eq 12, 3) := by decide +kernel
theorem dX12_clause_113 : decode bX12_clause.2.1 113 = .ok (.aload_n 0, 1) := by decide +kernel
theorem dX12_clause_114 : decode bX12_clause.2.1 114 = .ok (.invokevirtual 143, 3) := by decide +kernel
theorem dX12_clause_117 : decode bX12_clause.2.1 117 = .ok (.bipush 40, 2) := by decide +kernel
theorem dX12_clause_119 : decode bX12_clause.2.1 119 = .ok (.if_icmp .ne 7, 3) := by decide +kernel
theorem dX12_clause_122 : decode bX12_clause.2.1 122 = .ok (.iconst 1, 1) := by decide +kernel
theorem dX12_clause_123 : decode bX12_clause.2.1 123 = .ok (.goto 4, 3) := by decide +kernel
theorem dX12_clause_126 : decode bX12_clause.2.1 126 = .ok (.iconst 0, 1) := by decide +kernel
theorem dX12_clause_127 : decode bX12_clause.2.1 127 = .ok (.istore_n 2, 1) := by decide +kernel
theorem dX12_clause_128 : decode bX12_clause.2.1 128 = .ok (.iload_n 2, 1) := by decide +kernel
theorem dX12_clause_129 : decode bX12_clause.2.1 129 = .ok (.ifCond .eq 10, 3) := by decide +kernel
theorem dX12_clause_132 : decode bX12_clause.2.1 132 = .ok (.aload_n 0, 1) := by decide +kernel
theorem dX12_clause_133 : decode bX12_clause.2.1 133 = .ok (.invokevirtual 183, 3) := by decide +kernel
theorem dX12_clause_136 : decode bX12_clause.2.1 136 = .ok (.goto 47, 3) := by decide +kernel
theorem dX12_clause_139 : decode bX12_clause.2.1 139 = .ok (.aload_n 0, 1) := by decide +kernel
theorem dX12_clause_140 : decode bX12_clause.2.1 140 = .ok (.invokevirtual 164, 3) := by decide +kernel
theorem dX12_clause_143 : decode bX12_clause.2.1 143 = .ok (.aload_n 0, 1) := by decide +kernel
theorem dX12_clause_144 : decode bX12_clause.2.1 144 = .ok (.getfield 131, 3) := by decide +kernel
theorem dX12_clause_147 : decode bX12_clause.2.1 147 = .ok (.iconst (-1), 1) := by decide +kernel
theorem dX12_clause_148 : decode bX12_clause.2.1 148 = .ok (.if_icmp .ne 17, 3) := by decide +kernel
theorem dX12_clause_151 : decode bX12_clause.2.1 151 = .ok (.aload_n 0, 1) := by decide +kernel
theorem dX12_clause_152 : decode bX12_clause.2.1 152 = .ok (.invokevirtual 143, 3) := by decide +kernel
theorem dX12_clause_155 : decode bX12_clause.2.1 155 = .ok (.invokestatic 177, 3) := by decide +kernel
theorem dX12_clause_158 : decode bX12_clause.2.1 158 = .ok (.ifCond .eq 7, 3) := by decide +kernel
theorem dX12_clause_161 : decode bX12_clause.2.1 161 = .ok (.iconst 1, 1) := by decide +kernel
theorem dX12_clause_162 : decode bX12_clause.2.1 162 = .ok (.goto 4, 3) := by decide +kernel
theorem dX12_clause_165 : decode bX12_clause.2.1 165 = .ok (.iconst 0, 1) := by decide +kernel
theorem dX12_clause_166 : decode bX12_clause.2.1 166 = .ok (.istore_n 2, 1) := by decide +kernel
theorem dX12_clause_167 : decode bX12_clause.2.1 167 = .ok (.iload_n 2, 1) := by decide +kernel
theorem dX12_clause_168 : decode bX12_clause.2.1 168 = .ok (.ifCond .eq 15, 3) := by decide +kernel
theorem dX12_clause_171 : decode bX12_clause.2.1 171 = .ok (.aload_n 0, 1) := by decide +kernel
theorem dX12_clause_172 : decode bX12_clause.2.1 172 = .ok (.invokevirtual 186, 3) := by decide +kernel
theorem dX12_clause_175 : decode bX12_clause.2.1 175 = .ok (.aload_n 0, 1) := by decide +kernel
theorem dX12_clause_176 : decode bX12_clause.2.1 176 = .ok (.invokevirtual 189, 3) := by decide +kernel
theorem dX12_clause_179 : decode bX12_clause.2.1 179 = .ok (.aload_n 0, 1) := by decide +kernel
theorem dX12_clause_180 : decode bX12_clause.2.1 180 = .ok (.invokevirtual 192, 3) := by decide +kernel
theorem dX12_clause_183 : decode bX12_clause.2.1 183 = .ok (.aload_n 0, 1) := by decide +kernel
theorem dX12_clause_184 : decode bX12_clause.2.1 184 = .ok (.getfield 28, 3) := by decide +kernel
theorem dX12_clause_187 : decode bX12_clause.2.1 187 = .ok (.iload_n 1, 1) := by decide +kernel
theorem dX12_clause_188 : decode bX12_clause.2.1 188 = .ok (.aload_n 0, 1) := by decide +kernel
theorem dX12_clause_189 : decode bX12_clause.2.1 189 = .ok (.getfield 25, 3) := by decide +kernel
theorem dX12_clause_192 : decode bX12_clause.2.1 192 = .ok (.iload_n 1, 1) := by decide +kernel
theorem dX12_clause_193 : decode bX12_clause.2.1 193 = .ok (.iaload, 1) := by decide +kernel
theorem dX12_clause_194 : decode bX12_clause.2.1 194 = .ok (.iastore, 1) := by decide +kernel
theorem dX12_clause_195 : decode bX12_clause.2.1 195 = .ok (.iload_n 2, 1) := by decide +kernel
theorem dX12_clause_196 : decode bX12_clause.2.1 196 = .ok (.ifCond .eq 54, 3) := by decide +kernel
theorem dX12_clause_199 : decode bX12_clause.2.1 199 = .ok (.aload_n 0, 1) := by decide +kernel
theorem dX12_clause_200 : decode bX12_clause.2.1 200 = .ok (.getfield 131, 3) := by decide +kernel
theorem dX12_clause_203 : decode bX12_clause.2.1 203 = .ok (.iconst (-1), 1) := by decide +kernel
theorem dX12_clause_204 : decode bX12_clause.2.1 204 = .ok (.if_icmp .ne 46, 3) := by decide +kernel
theorem dX12_clause_207 : decode bX12_clause.2.1 207 = .ok (.aload_n 0, 1) := by decide +kernel
theorem dX12_clause_208 : decode bX12_clause.2.1 208 = .ok (.invokevirtual 143, 3) := by decide +kernel
theorem dX12_clause_211 : decode bX12_clause.2.1 211 = .ok (.bipush 63, 2) := by decide +kernel
theorem dX12_clause_213 : decode bX12_clause.2.1 213 = .ok (.if_icmp .eq 8, 3) := by decide +kernel
theorem dX12_clause_216 : decode bX12_clause.2.1 216 = .ok (.aload_n 0, 1) := by decide +kernel
theorem dX12_clause_217 : decode bX12_clause.2.1 217 = .ok (.invokevirtual 140, 3) := by decide +kernel
theorem dX12_clause_220 : decode bX12_clause.2.1 220 = .ok (.return_, 1) := by decide +kernel
theorem dX12_clause_221 : decode bX12_clause.2.1 221 = .ok (.aload_n 0, 1) := by decide +kernel
theorem dX12_clause_222 : decode bX12_clause.2.1 222 = .ok (.dup, 1) := by decide +kernel
theorem dX12_clause_223 : decode bX12_clause.2.1 223 = .ok (.getfield 124, 3) := by decide +kernel
theorem dX12_clause_226 : decode bX12_clause.2.1 226 = .ok (.iconst 1, 1) := by decide +kernel
theorem dX12_clause_227 : decode bX12_clause.2.1 227 = .ok (.iadd, 1) := by decide +kernel
theorem dX12_clause_228 : decode bX12_clause.2.1 228 = .ok (.putfield 124, 3) := by decide +kernel
theorem dX12_clause_231 : decode bX12_clause.2.1 231 = .ok (.aload_n 0, 1) := by decide +kernel
theorem dX12_clause_232 : decode bX12_clause.2.1 232 = .ok (.getfield 28, 3) := by decide +kernel
theorem dX12_clause_235 : decode bX12_clause.2.1 235 = .ok (.iload_n 1, 1) := by decide +kernel
theorem dX12_clause_236 : decode bX12_clause.2.1 236 = .ok (.aload_n 0, 1) := by decide +kernel
theorem dX12_clause_237 : decode bX12_clause.2.1 237 = .ok (.getfield 19, 3) := by decide +kernel
theorem dX12_clause_240 : decode bX12_clause.2.1 240 = .ok (.aload_n 0, 1) := by decide +kernel
theorem dX12_clause_241 : decode bX12_clause.2.1 241 = .ok (.getfield 134, 3) := by decide +kernel
theorem dX12_clause_244 : decode bX12_clause.2.1 244 = .ok (.iaload, 1) := by decide +kernel
theorem dX12_clause_245 : decode bX12_clause.2.1 245 = .ok (.iastore, 1) := by decide +kernel
theorem dX12_clause_246 : decode bX12_clause.2.1 246 = .ok (.aload_n 0, 1) := by decide +kernel
theorem dX12_clause_247 : decode bX12_clause.2.1 247 = .ok (.invokevirtual 164, 3) := by decide +kernel
theorem dX12_clause_250 : decode bX12_clause.2.1 250 = .ok (.aload_n 0, 1) := by decide +kernel
theorem dX12_clause_251 : decode bX12_clause.2.1 251 = .ok (.getfield 31, 3) := by decide +kernel
theorem dX12_clause_254 : decode bX12_clause.2.1 254 = .ok (.iload_n 1, 1) := by decide +kernel
theorem dX12_clause_255 : decode bX12_clause.2.1 255 = .ok (.aload_n 0, 1) := by decide +kernel
theorem dX12_clause_256 : decode bX12_clause.2.1 256 = .ok (.getfield 19, 3) := by decide +kernel
theorem dX12_clause_259 : decode bX12_clause.2.1 259 = .ok (.aload_n 0, 1) := by decide +kernel
theorem dX12_clause_260 : decode bX12_clause.2.1 260 = .ok (.getfield 134, 3) := by decide +kernel
theorem dX12_clause_263 : decode bX12_clause.2.1 263 = .ok (.iaload, 1) := by decide +kernel
theorem dX12_clause_264 : decode bX12_clause.2.1 264 = .ok (.iastore, 1) := by decide +kernel
theorem dX12_clause_265 : decode bX12_clause.2.1 265 = .ok (.aload_n 0, 1) := by decide +kernel
theorem dX12_clause_266 : decode bX12_clause.2.1 266 = .ok (.getfield 22, 3) := by decide +kernel
theorem dX12_clause_269 : decode bX12_clause.2.1 269 = .ok (.aload_n 0, 1) := by decide +kernel
theorem dX12_clause_270 : decode bX12_clause.2.1 270 = .ok (.getfield 134, 3) := by decide +kernel
theorem dX12_clause_273 : decode bX12_clause.2.1 273 = .ok (.dup2, 1) := by decide +kernel
theorem dX12_clause_274 : decode bX12_clause.2.1 274 = .ok (.iaload, 1) := by decide +kernel
theorem dX12_clause_275 : decode bX12_clause.2.1 275 = .ok (.iconst 1, 1) := by decide +kernel
theorem dX12_clause_276 : decode bX12_clause.2.1 276 = .ok (.iadd, 1) := by decide +kernel
theorem dX12_clause_277 : decode bX12_clause.2.1 277 = .ok (.iastore, 1) := by decide +kernel
theorem dX12_clause_278 : decode bX12_clause.2.1 278 = .ok (.return_, 1) := by decide +kernel
theorem dX12_open_0 : decode bX12_open.2.1 0 = .ok (.aload_n 0, 1) := by decide +kernel
theorem dX12_open_1 : decode bX12_open.2.1 1 = .ok (.iload_n 1, 1) := by decide +kernel
theorem dX12_open_2 : decode bX12_open.2.1 2 = .ok (.putfield 134, 3) := by decide +kernel
theorem dX12_open_5 : decode bX12_open.2.1 5 = .ok (.aload_n 0, 1) := by decide +kernel
theorem dX12_open_6 : decode bX12_open.2.1 6 = .ok (.iconst 0, 1) := by decide +kernel
theorem dX12_open_7 : decode bX12_open.2.1 7 = .ok (.putfield 124, 3) := by decide +kernel
theorem dX12_open_10 : decode bX12_open.2.1 10 = .ok (.aload_n 0, 1) := by decide +kernel
theorem dX12_open_11 : decode bX12_open.2.1 11 = .ok (.iconst (-1), 1) := by decide +kernel
theorem dX12_open_12 : decode bX12_open.2.1 12 = .ok (.putfield 131, 3) := by decide +kernel
theorem dX12_open_15 : decode bX12_open.2.1 15 = .ok (.aload_n 0, 1) := by decide +kernel
theorem dX12_open_16 : decode bX12_open.2.1 16 = .ok (.iconst 0, 1) := by decide +kernel
theorem dX12_open_17 : decode bX12_open.2.1 17 = .ok (.putfield 137, 3) := by decide +kernel
theorem dX12_open_20 : decode bX12_open.2.1 20 = .ok (.aload_n 0, 1) := by decide +kernel
theorem dX12_open_21 : decode bX12_open.2.1 21 = .ok (.getfield 19, 3) := by decide +kernel
theorem dX12_open_24 : decode bX12_open.2.1 24 = .ok (.iload_n 1, 1) := by decide +kernel
theorem dX12_open_25 : decode bX12_open.2.1 25 = .ok (.iconst 0, 1) := by decide +kernel
theorem dX12_open_26 : decode bX12_open.2.1 26 = .ok (.iastore, 1) := by decide +kernel
theorem dX12_open_27 : decode bX12_open.2.1 27 = .ok (.aload_n 0, 1) := by decide +kernel
theorem dX12_open_28 : decode bX12_open.2.1 28 = .ok (.getfield 22, 3) := by decide +kernel
theorem dX12_open_31 : decode bX12_open.2.1 31 = .ok (.iload_n 1, 1) := by decide +kernel
theorem dX12_open_32 : decode bX12_open.2.1 32 = .ok (.iconst 0, 1) := by decide +kernel
theorem dX12_open_33 : decode bX12_open.2.1 33 = .ok (.iastore, 1) := by decide +kernel
theorem dX12_open_34 : decode bX12_open.2.1 34 = .ok (.return_, 1) := by decide +kernel
theorem dX12_atEnd_0 : decode bX12_atEnd.2.1 0 = .ok (.aload_n 0, 1) := by decide +kernel
theorem dX12_atEnd_1 : decode bX12_atEnd.2.1 1 = .ok (.getfield 131, 3) := by decide +kernel
theorem dX12_atEnd_4 : decode bX12_atEnd.2.1 4 = .ok (.iconst (-1), 1) := by decide +kernel
theorem dX12_atEnd_5 : decode bX12_atEnd.2.1 5 = .ok (.if_icmp .ne 15, 3) := by decide +kernel
theorem dX12_atEnd_8 : decode bX12_atEnd.2.1 8 = .ok (.aload_n 0, 1) := by decide +kernel
theorem dX12_atEnd_9 : decode bX12_atEnd.2.1 9 = .ok (.invokevirtual 143, 3) := by decide +kernel
theorem dX12_atEnd_12 : decode bX12_atEnd.2.1 12 = .ok (.iconst (-1), 1) := by decide +kernel
theorem dX12_atEnd_13 : decode bX12_atEnd.2.1 13 = .ok (.if_icmp .eq 7, 3) := by decide +kernel
theorem dX12_atEnd_16 : decode bX12_atEnd.2.1 16 = .ok (.aload_n 0, 1) := by decide +kernel
theorem dX12_atEnd_17 : decode bX12_atEnd.2.1 17 = .ok (.invokevirtual 140, 3) := by decide +kernel
theorem dX12_atEnd_20 : decode bX12_atEnd.2.1 20 = .ok (.aload_n 0, 1) := by decide +kernel
theorem dX12_atEnd_21 : decode bX12_atEnd.2.1 21 = .ok (.getfield 131, 3) := by decide +kernel
theorem dX12_atEnd_24 : decode bX12_atEnd.2.1 24 = .ok (.ireturn, 1) := by decide +kernel
theorem dX12_readLaw_0 : decode bX12_readLaw.2.1 0 = .ok (.aload_n 0, 1) := by decide +kernel
theorem dX12_readLaw_1 : decode bX12_readLaw.2.1 1 = .ok (.iload_n 1, 1) := by decide +kernel
theorem dX12_readLaw_2 : decode bX12_readLaw.2.1 2 = .ok (.invokevirtual 195, 3) := by decide +kernel
theorem dX12_readLaw_5 : decode bX12_readLaw.2.1 5 = .ok (.aload_n 0, 1) := by decide +kernel
theorem dX12_readLaw_6 : decode bX12_readLaw.2.1 6 = .ok (.invokevirtual 198, 3) := by decide +kernel
theorem dX12_readLaw_9 : decode bX12_readLaw.2.1 9 = .ok (.aload_n 0, 1) := by decide +kernel
theorem dX12_readLaw_10 : decode bX12_readLaw.2.1 10 = .ok (.getfield 131, 3) := by decide +kernel
theorem dX12_readLaw_13 : decode bX12_readLaw.2.1 13 = .ok (.iconst (-1), 1) := by decide +kernel
theorem dX12_readLaw_14 : decode bX12_readLaw.2.1 14 = .ok (.if_icmp .ne 29, 3) := by decide +kernel
theorem dX12_readLaw_17 : decode bX12_readLaw.2.1 17 = .ok (.aload_n 0, 1) := by decide +kernel
theorem dX12_readLaw_18 : decode bX12_readLaw.2.1 18 = .ok (.invokevirtual 143, 3) := by decide +kernel
theorem dX12_readLaw_21 : decode bX12_readLaw.2.1 21 = .ok (.bipush 59, 2) := by decide +kernel
theorem dX12_readLaw_23 : decode bX12_readLaw.2.1 23 = .ok (.if_icmp .ne 20, 3) := by decide +kernel
theorem dX12_readLaw_26 : decode bX12_readLaw.2.1 26 = .ok (.aload_n 0, 1) := by decide +kernel
theorem dX12_readLaw_27 : decode bX12_readLaw.2.1 27 = .ok (.dup, 1) := by decide +kernel
theorem dX12_readLaw_28 : decode bX12_readLaw.2.1 28 = .ok (.getfield 124, 3) := by decide +kernel
theorem dX12_readLaw_31 : decode bX12_readLaw.2.1 31 = .ok (.iconst 1, 1) := by decide +kernel
theorem dX12_readLaw_32 : decode bX12_readLaw.2.1 32 = .ok (.iadd, 1) := by decide +kernel
theorem dX12_readLaw_33 : decode bX12_readLaw.2.1 33 = .ok (.putfield 124, 3) := by decide +kernel
theorem dX12_readLaw_36 : decode bX12_readLaw.2.1 36 = .ok (.aload_n 0, 1) := by decide +kernel
theorem dX12_readLaw_37 : decode bX12_readLaw.2.1 37 = .ok (.invokevirtual 198, 3) := by decide +kernel
theorem dX12_readLaw_40 : decode bX12_readLaw.2.1 40 = .ok (.goto (-31), 3) := by decide +kernel
theorem dX12_readLaw_43 : decode bX12_readLaw.2.1 43 = .ok (.aload_n 0, 1) := by decide +kernel
theorem dX12_readLaw_44 : decode bX12_readLaw.2.1 44 = .ok (.invokevirtual 201, 3) := by decide +kernel
theorem dX12_readLaw_47 : decode bX12_readLaw.2.1 47 = .ok (.ireturn, 1) := by decide +kernel
theorem dX12_bounded_0 : decode bX12_bounded.2.1 0 = .ok (.ldc2_w 204, 3) := by decide +kernel
theorem dX12_bounded_3 : decode bX12_bounded.2.1 3 = .ok (.ldc2_w 206, 3) := by decide +kernel
theorem dX12_bounded_6 : decode bX12_bounded.2.1 6 = .ok (.lload_n 0, 1) := by decide +kernel
theorem dX12_bounded_7 : decode bX12_bounded.2.1 7 = .ok (.invokestatic 208, 3) := by decide +kernel
theorem dX12_bounded_10 : decode bX12_bounded.2.1 10 = .ok (.invokestatic 214, 3) := by decide +kernel
theorem dX12_bounded_13 : decode bX12_bounded.2.1 13 = .ok (.l2i, 1) := by decide +kernel
theorem dX12_bounded_14 : decode bX12_bounded.2.1 14 = .ok (.ireturn, 1) := by decide +kernel
theorem dX12_worked_0 : decode bX12_worked.2.1 0 = .ok (.iload_n 0, 1) := by decide +kernel
theorem dX12_worked_1 : decode bX12_worked.2.1 1 = .ok (.tableswitch 143 2 10 #[51, 58, 65, 72, 89, 101, 113, 143, 125], 51) := by decide +kernel
theorem dX12_worked_52 : decode bX12_worked.2.1 52 = .ok (.lload_n 1, 1) := by decide +kernel
theorem dX12_worked_53 : decode bX12_worked.2.1 53 = .ok (.lload_n 3, 1) := by decide +kernel
theorem dX12_worked_54 : decode bX12_worked.2.1 54 = .ok (.ladd, 1) := by decide +kernel
theorem dX12_worked_55 : decode bX12_worked.2.1 55 = .ok (.invokestatic 217, 3) := by decide +kernel
theorem dX12_worked_58 : decode bX12_worked.2.1 58 = .ok (.ireturn, 1) := by decide +kernel
theorem dX12_worked_59 : decode bX12_worked.2.1 59 = .ok (.lload_n 1, 1) := by decide +kernel
theorem dX12_worked_60 : decode bX12_worked.2.1 60 = .ok (.lload_n 3, 1) := by decide +kernel
theorem dX12_worked_61 : decode bX12_worked.2.1 61 = .ok (.lsub, 1) := by decide +kernel
theorem dX12_worked_62 : decode bX12_worked.2.1 62 = .ok (.invokestatic 217, 3) := by decide +kernel
theorem dX12_worked_65 : decode bX12_worked.2.1 65 = .ok (.ireturn, 1) := by decide +kernel
theorem dX12_worked_66 : decode bX12_worked.2.1 66 = .ok (.lload_n 1, 1) := by decide +kernel
theorem dX12_worked_67 : decode bX12_worked.2.1 67 = .ok (.lload_n 3, 1) := by decide +kernel
theorem dX12_worked_68 : decode bX12_worked.2.1 68 = .ok (.lmul, 1) := by decide +kernel
theorem dX12_worked_69 : decode bX12_worked.2.1 69 = .ok (.invokestatic 217, 3) := by decide +kernel
theorem dX12_worked_72 : decode bX12_worked.2.1 72 = .ok (.ireturn, 1) := by decide +kernel
theorem dX12_worked_73 : decode bX12_worked.2.1 73 = .ok (.lload_n 3, 1) := by decide +kernel
theorem dX12_worked_74 : decode bX12_worked.2.1 74 = .ok (.lconst 0, 1) := by decide +kernel
theorem dX12_worked_75 : decode bX12_worked.2.1 75 = .ok (.lcmp, 1) := by decide +kernel
theorem dX12_worked_76 : decode bX12_worked.2.1 76 = .ok (.ifCond .ne 7, 3) := by decide +kernel
theorem dX12_worked_79 : decode bX12_worked.2.1 79 = .ok (.iconst 0, 1) := by decide +kernel
theorem dX12_worked_80 : decode bX12_worked.2.1 80 = .ok (.goto 9, 3) := by decide +kernel
theorem dX12_worked_83 : decode bX12_worked.2.1 83 = .ok (.lload_n 1, 1) := by decide +kernel
theorem dX12_worked_84 : decode bX12_worked.2.1 84 = .ok (.lload_n 3, 1) := by decide +kernel
theorem dX12_worked_85 : decode bX12_worked.2.1 85 = .ok (.ldiv, 1) := by decide +kernel
theorem dX12_worked_86 : decode bX12_worked.2.1 86 = .ok (.invokestatic 217, 3) := by decide +kernel
theorem dX12_worked_89 : decode bX12_worked.2.1 89 = .ok (.ireturn, 1) := by decide +kernel
theorem dX12_worked_90 : decode bX12_worked.2.1 90 = .ok (.lload_n 1, 1) := by decide +kernel
theorem dX12_worked_91 : decode bX12_worked.2.1 91 = .ok (.lload_n 3, 1) := by decide +kernel
theorem dX12_worked_92 : decode bX12_worked.2.1 92 = .ok (.lcmp, 1) := by decide +kernel
theorem dX12_worked_93 : decode bX12_worked.2.1 93 = .ok (.ifCond .ne 7, 3) := by decide +kernel
theorem dX12_worked_96 : decode bX12_worked.2.1 96 = .ok (.iconst 1, 1) := by decide +kernel
theorem dX12_worked_97 : decode bX12_worked.2.1 97 = .ok (.goto 4, 3) := by decide +kernel
theorem dX12_worked_100 : decode bX12_worked.2.1 100 = .ok (.iconst 0, 1) := by decide +kernel
theorem dX12_worked_101 : decode bX12_worked.2.1 101 = .ok (.ireturn, 1) := by decide +kernel
theorem dX12_worked_102 : decode bX12_worked.2.1 102 = .ok (.lload_n 1, 1) := by decide +kernel
theorem dX12_worked_103 : decode bX12_worked.2.1 103 = .ok (.lload_n 3, 1) := by decide +kernel
theorem dX12_worked_104 : decode bX12_worked.2.1 104 = .ok (.lcmp, 1) := by decide +kernel
theorem dX12_worked_105 : decode bX12_worked.2.1 105 = .ok (.ifCond .ge 7, 3) := by decide +kernel
theorem dX12_worked_108 : decode bX12_worked.2.1 108 = .ok (.iconst 1, 1) := by decide +kernel
theorem dX12_worked_109 : decode bX12_worked.2.1 109 = .ok (.goto 4, 3) := by decide +kernel
theorem dX12_worked_112 : decode bX12_worked.2.1 112 = .ok (.iconst 0, 1) := by decide +kernel
theorem dX12_worked_113 : decode bX12_worked.2.1 113 = .ok (.ireturn, 1) := by decide +kernel
theorem dX12_worked_114 : decode bX12_worked.2.1 114 = .ok (.lload_n 1, 1) := by decide +kernel
theorem dX12_worked_115 : decode bX12_worked.2.1 115 = .ok (.lload_n 3, 1) := by decide +kernel
theorem dX12_worked_116 : decode bX12_worked.2.1 116 = .ok (.lcmp, 1) := by decide +kernel
theorem dX12_worked_117 : decode bX12_worked.2.1 117 = .ok (.ifCond .le 7, 3) := by decide +kernel
theorem dX12_worked_120 : decode bX12_worked.2.1 120 = .ok (.iconst 1, 1) := by decide +kernel
theorem dX12_worked_121 : decode bX12_worked.2.1 121 = .ok (.goto 4, 3) := by decide +kernel
theorem dX12_worked_124 : decode bX12_worked.2.1 124 = .ok (.iconst 0, 1) := by decide +kernel
theorem dX12_worked_125 : decode bX12_worked.2.1 125 = .ok (.ireturn, 1) := by decide +kernel
theorem dX12_worked_126 : decode bX12_worked.2.1 126 = .ok (.lload_n 1, 1) := by decide +kernel
theorem dX12_worked_127 : decode bX12_worked.2.1 127 = .ok (.lconst 0, 1) := by decide +kernel
theorem dX12_worked_128 : decode bX12_worked.2.1 128 = .ok (.lcmp, 1) := by decide +kernel
theorem dX12_worked_129 : decode bX12_worked.2.1 129 = .ok (.ifCond .eq 13, 3) := by decide +kernel
theorem dX12_worked_132 : decode bX12_worked.2.1 132 = .ok (.lload_n 3, 1) := by decide +kernel
theorem dX12_worked_133 : decode bX12_worked.2.1 133 = .ok (.lconst 0, 1) := by decide +kernel
theorem dX12_worked_134 : decode bX12_worked.2.1 134 = .ok (.lcmp, 1) := by decide +kernel
theorem dX12_worked_135 : decode bX12_worked.2.1 135 = .ok (.ifCond .eq 7, 3) := by decide +kernel
theorem dX12_worked_138 : decode bX12_worked.2.1 138 = .ok (.iconst 1, 1) := by decide +kernel
theorem dX12_worked_139 : decode bX12_worked.2.1 139 = .ok (.goto 4, 3) := by decide +kernel
theorem dX12_worked_142 : decode bX12_worked.2.1 142 = .ok (.iconst 0, 1) := by decide +kernel
theorem dX12_worked_143 : decode bX12_worked.2.1 143 = .ok (.ireturn, 1) := by decide +kernel
theorem dX12_worked_144 : decode bX12_worked.2.1 144 = .ok (.lload_n 1, 1) := by decide +kernel
theorem dX12_worked_145 : decode bX12_worked.2.1 145 = .ok (.lconst 0, 1) := by decide +kernel
theorem dX12_worked_146 : decode bX12_worked.2.1 146 = .ok (.lcmp, 1) := by decide +kernel
theorem dX12_worked_147 : decode bX12_worked.2.1 147 = .ok (.ifCond .ne 9, 3) := by decide +kernel
theorem dX12_worked_150 : decode bX12_worked.2.1 150 = .ok (.lload_n 3, 1) := by decide +kernel
theorem dX12_worked_151 : decode bX12_worked.2.1 151 = .ok (.lconst 0, 1) := by decide +kernel
theorem dX12_worked_152 : decode bX12_worked.2.1 152 = .ok (.lcmp, 1) := by decide +kernel
theorem dX12_worked_153 : decode bX12_worked.2.1 153 = .ok (.ifCond .eq 7, 3) := by decide +kernel
theorem dX12_worked_156 : decode bX12_worked.2.1 156 = .ok (.iconst 1, 1) := by decide +kernel
theorem dX12_worked_157 : decode bX12_worked.2.1 157 = .ok (.goto 4, 3) := by decide +kernel
theorem dX12_worked_160 : decode bX12_worked.2.1 160 = .ok (.iconst 0, 1) := by decide +kernel
theorem dX12_worked_161 : decode bX12_worked.2.1 161 = .ok (.ireturn, 1) := by decide +kernel
theorem dX12_workOut_0 : decode bX12_workOut.2.1 0 = .ok (.iconst 0, 1) := by decide +kernel
theorem dX12_workOut_1 : decode bX12_workOut.2.1 1 = .ok (.istore 4, 2) := by decide +kernel
theorem dX12_workOut_3 : decode bX12_workOut.2.1 3 = .ok (.sipush 340, 3) := by decide +kernel
theorem dX12_workOut_6 : decode bX12_workOut.2.1 6 = .ok (.iload_n 1, 1) := by decide +kernel
theorem dX12_workOut_7 : decode bX12_workOut.2.1 7 = .ok (.imul, 1) := by decide +kernel
theorem dX12_workOut_8 : decode bX12_workOut.2.1 8 = .ok (.iload_n 2, 1) := by decide +kernel
theorem dX12_workOut_9 : decode bX12_workOut.2.1 9 = .ok (.iadd, 1) := by decide +kernel
theorem dX12_workOut_10 : decode bX12_workOut.2.1 10 = .ok (.istore 5, 2) := by decide +kernel
theorem dX12_workOut_12 : decode bX12_workOut.2.1 12 = .ok (.iload 5, 2) := by decide +kernel
theorem dX12_workOut_14 : decode bX12_workOut.2.1 14 = .ok (.sipush 340, 3) := by decide +kernel
theorem dX12_workOut_17 : decode bX12_workOut.2.1 17 = .ok (.iload_n 1, 1) := by decide +kernel
theorem dX12_workOut_18 : decode bX12_workOut.2.1 18 = .ok (.imul, 1) := by decide +kernel
theorem dX12_workOut_19 : decode bX12_workOut.2.1 19 = .ok (.iload_n 3, 1) := by decide +kernel
theorem dX12_workOut_20 : decode bX12_workOut.2.1 20 = .ok (.iadd, 1) := by decide +kernel
theorem dX12_workOut_21 : decode bX12_workOut.2.1 21 = .ok (.if_icmp .ge 150, 3) := by decide +kernel
theorem dX12_workOut_24 : decode bX12_workOut.2.1 24 = .ok (.aload_n 0, 1) := by decide +kernel
theorem dX12_workOut_25 : decode bX12_workOut.2.1 25 = .ok (.getfield 13, 3) := by decide +kernel
theorem dX12_workOut_28 : decode bX12_workOut.2.1 28 = .ok (.iload 5, 2) := by decide +kernel
theorem dX12_workOut_30 : decode bX12_workOut.2.1 30 = .ok (.iaload, 1) := by decide +kernel
theorem dX12_workOut_31 : decode bX12_workOut.2.1 31 = .ok (.ifCond .eq 14, 3) := by decide +kernel
theorem dX12_workOut_34 : decode bX12_workOut.2.1 34 = .ok (.aload_n 0, 1) := by decide +kernel
theorem dX12_workOut_35 : decode bX12_workOut.2.1 35 = .ok (.getfield 13, 3) := by decide +kernel
theorem dX12_workOut_38 : decode bX12_workOut.2.1 38 = .ok (.iload 5, 2) := by decide +kernel
theorem dX12_workOut_40 : decode bX12_workOut.2.1 40 = .ok (.iaload, 1) := by decide +kernel
theorem dX12_workOut_41 : decode bX12_workOut.2.1 41 = .ok (.iconst 1, 1) := by decide +kernel
theorem dX12_workOut_42 : decode bX12_workOut.2.1 42 = .ok (.if_icmp .ne 48, 3) := by decide +kernel
theorem dX12_workOut_45 : decode bX12_workOut.2.1 45 = .ok (.aload_n 0, 1) := by decide +kernel
theorem dX12_workOut_46 : decode bX12_workOut.2.1 46 = .ok (.getfield 37, 3) := by decide +kernel
theorem dX12_workOut_49 : decode bX12_workOut.2.1 49 = .ok (.iload 4, 2) := by decide +kernel
theorem dX12_workOut_51 : decode bX12_workOut.2.1 51 = .ok (.aload_n 0, 1) := by decide +kernel
theorem dX12_workOut_52 : decode bX12_workOut.2.1 52 = .ok (.getfield 13, 3) := by decide +kernel
theorem dX12_workOut_55 : decode bX12_workOut.2.1 55 = .ok (.iload 5, 2) := by decide +kernel
theorem dX12_workOut_57 : decode bX12_workOut.2.1 57 = .ok (.iaload, 1) := by decide +kernel
theorem dX12_workOut_58 : decode bX12_workOut.2.1 58 = .ok (.ifCond .ne 13, 3) := by decide +kernel
theorem dX12_workOut_61 : decode bX12_workOut.2.1 61 = .ok (.aload_n 0, 1) := by decide +kernel
theorem dX12_workOut_62 : decode bX12_workOut.2.1 62 = .ok (.getfield 16, 3) := by decide +kernel
theorem dX12_workOut_65 : decode bX12_workOut.2.1 65 = .ok (.iload 5, 2) := by decide +kernel
theorem dX12_workOut_67 : decode bX12_workOut.2.1 67 = .ok (.iaload, 1) := by decide +kernel
theorem dX12_workOut_68 : decode bX12_workOut.2.1 68 = .ok (.goto 15, 3) := by decide +kernel
theorem dX12_workOut_71 : decode bX12_workOut.2.1 71 = .ok (.aload_n 0, 1) := by decide +kernel
theorem dX12_workOut_72 : decode bX12_workOut.2.1 72 = .ok (.getfield 34, 3) := by decide +kernel
theorem dX12_workOut_75 : decode bX12_workOut.2.1 75 = .ok (.aload_n 0, 1) := by decide +kernel
theorem dX12_workOut_76 : decode bX12_workOut.2.1 76 = .ok (.getfield 16, 3) := by decide +kernel
theorem dX12_workOut_79 : decode bX12_workOut.2.1 79 = .ok (.iload 5, 2) := by decide +kernel
theorem dX12_workOut_81 : decode bX12_workOut.2.1 81 = .ok (.iaload, 1) := by decide +kernel
theorem dX12_workOut_82 : decode bX12_workOut.2.1 82 = .ok (.iaload, 1) := by decide +kernel
theorem dX12_workOut_83 : decode bX12_workOut.2.1 83 = .ok (.iastore, 1) := by decide +kernel
theorem dX12_workOut_84 : decode bX12_workOut.2.1 84 = .ok (.iinc 4 1, 3) := by decide +kernel
theorem dX12_workOut_87 : decode bX12_workOut.2.1 87 = .ok (.goto 78, 3) := by decide +kernel
theorem dX12_workOut_90 : decode bX12_workOut.2.1 90 = .ok (.aload_n 0, 1) := by decide +kernel
theorem dX12_workOut_91 : decode bX12_workOut.2.1 91 = .ok (.getfield 13, 3) := by decide +kernel
theorem dX12_workOut_94 : decode bX12_workOut.2.1 94 = .ok (.iload 5, 2) := by decide +kernel
theorem dX12_workOut_96 : decode bX12_workOut.2.1 96 = .ok (.iaload, 1) := by decide +kernel
theorem dX12_workOut_97 : decode bX12_workOut.2.1 97 = .ok (.bipush 9, 2) := by decide +kernel
theorem dX12_workOut_99 : decode bX12_workOut.2.1 99 = .ok (.if_icmp .ne 26, 3) := by decide +kernel
theorem dX12_workOut_102 : decode bX12_workOut.2.1 102 = .ok (.aload_n 0, 1) := by decide +kernel
theorem dX12_workOut_103 : decode bX12_workOut.2.1 103 = .ok (.getfield 37, 3) := by decide +kernel
theorem dX12_workOut_106 : decode bX12_workOut.2.1 106 = .ok (.iload 4, 2) := by decide +kernel
theorem dX12_workOut_108 : decode bX12_workOut.2.1 108 = .ok (.iconst 1, 1) := by decide +kernel
theorem dX12_workOut_109 : decode bX12_workOut.2.1 109 = .ok (.isub, 1) := by decide +kernel
theorem dX12_workOut_110 : decode bX12_workOut.2.1 110 = .ok (.iconst 1, 1) := by decide +kernel
theorem dX12_workOut_111 : decode bX12_workOut.2.1 111 = .ok (.aload_n 0, 1) := by decide +kernel
theorem dX12_workOut_112 : decode bX12_workOut.2.1 112 = .ok (.getfield 37, 3) := by decide +kernel
theorem dX12_workOut_115 : decode bX12_workOut.2.1 115 = .ok (.iload 4, 2) := by decide +kernel
theorem dX12_workOut_117 : decode bX12_workOut.2.1 117 = .ok (.iconst 1, 1) := by decide +kernel
theorem dX12_workOut_118 : decode bX12_workOut.2.1 118 = .ok (.isub, 1) := by decide +kernel
theorem dX12_workOut_119 : decode bX12_workOut.2.1 119 = .ok (.iaload, 1) := by decide +kernel
theorem dX12_workOut_120 : decode bX12_workOut.2.1 120 = .ok (.isub, 1) := by decide +kernel
theorem dX12_workOut_121 : decode bX12_workOut.2.1 121 = .ok (.iastore, 1) := by decide +kernel
theorem dX12_workOut_122 : decode bX12_workOut.2.1 122 = .ok (.goto 43, 3) := by decide +kernel
theorem dX12_workOut_125 : decode bX12_workOut.2.1 125 = .ok (.iinc 4 (-1), 3) := by decide +kernel
theorem dX12_workOut_128 : decode bX12_workOut.2.1 128 = .ok (.aload_n 0, 1) := by decide +kernel
theorem dX12_workOut_129 : decode bX12_workOut.2.1 129 = .ok (.getfield 37, 3) := by decide +kernel
theorem dX12_workOut_132 : decode bX12_workOut.2.1 132 = .ok (.iload 4, 2) := by decide +kernel
theorem dX12_workOut_134 : decode bX12_workOut.2.1 134 = .ok (.iconst 1, 1) := by decide +kernel
theorem dX12_workOut_135 : decode bX12_workOut.2.1 135 = .ok (.isub, 1) := by decide +kernel
theorem dX12_workOut_136 : decode bX12_workOut.2.1 136 = .ok (.aload_n 0, 1) := by decide +kernel
theorem dX12_workOut_137 : decode bX12_workOut.2.1 137 = .ok (.getfield 13, 3) := by decide +kernel
theorem dX12_workOut_140 : decode bX12_workOut.2.1 140 = .ok (.iload 5, 2) := by decide +kernel
theorem dX12_workOut_142 : decode bX12_workOut.2.1 142 = .ok (.iaload, 1) := by decide +kernel
theorem dX12_workOut_143 : decode bX12_workOut.2.1 143 = .ok (.aload_n 0, 1) := by decide +kernel
theorem dX12_workOut_144 : decode bX12_workOut.2.1 144 = .ok (.getfield 37, 3) := by decide +kernel
theorem dX12_workOut_147 : decode bX12_workOut.2.1 147 = .ok (.iload 4, 2) := by decide +kernel
theorem dX12_workOut_149 : decode bX12_workOut.2.1 149 = .ok (.iconst 1, 1) := by decide +kernel
theorem dX12_workOut_150 : decode bX12_workOut.2.1 150 = .ok (.isub, 1) := by decide +kernel
theorem dX12_workOut_151 : decode bX12_workOut.2.1 151 = .ok (.iaload, 1) := by decide +kernel
theorem dX12_workOut_152 : decode bX12_workOut.2.1 152 = .ok (.i2l, 1) := by decide +kernel
theorem dX12_workOut_153 : decode bX12_workOut.2.1 153 = .ok (.aload_n 0, 1) := by decide +kernel
theorem dX12_workOut_154 : decode bX12_workOut.2.1 154 = .ok (.getfield 37, 3) := by decide +kernel
theorem dX12_workOut_157 : decode bX12_workOut.2.1 157 = .ok (.iload 4, 2) := by decide +kernel
theorem dX12_workOut_159 : decode bX12_workOut.2.1 159 = .ok (.iaload, 1) := by decide +kernel
theorem dX12_workOut_160 : decode bX12_workOut.2.1 160 = .ok (.i2l, 1) := by decide +kernel
theorem dX12_workOut_161 : decode bX12_workOut.2.1 161 = .ok (.invokestatic 221, 3) := by decide +kernel
theorem dX12_workOut_164 : decode bX12_workOut.2.1 164 = .ok (.iastore, 1) := by decide +kernel
theorem dX12_workOut_165 : decode bX12_workOut.2.1 165 = .ok (.iinc 5 1, 3) := by decide +kernel
theorem dX12_workOut_168 : decode bX12_workOut.2.1 168 = .ok (.goto (-156), 3) := by decide +kernel
theorem dX12_workOut_171 : decode bX12_workOut.2.1 171 = .ok (.aload_n 0, 1) := by decide +kernel
theorem dX12_workOut_172 : decode bX12_workOut.2.1 172 = .ok (.getfield 37, 3) := by decide +kernel
theorem dX12_workOut_175 : decode bX12_workOut.2.1 175 = .ok (.iconst 0, 1) := by decide +kernel
theorem dX12_workOut_176 : decode bX12_workOut.2.1 176 = .ok (.iaload, 1) := by decide +kernel
theorem dX12_workOut_177 : decode bX12_workOut.2.1 177 = .ok (.ireturn, 1) := by decide +kernel
theorem dX12_worthOf_0 : decode bX12_worthOf.2.1 0 = .ok (.bipush 90, 2) := by decide +kernel
theorem dX12_worthOf_2 : decode bX12_worthOf.2.1 2 = .ok (.iload_n 1, 1) := by decide +kernel
theorem dX12_worthOf_3 : decode bX12_worthOf.2.1 3 = .ok (.imul, 1) := by decide +kernel
theorem dX12_worthOf_4 : decode bX12_worthOf.2.1 4 = .ok (.istore_n 2, 1) := by decide +kernel
theorem dX12_worthOf_5 : decode bX12_worthOf.2.1 5 = .ok (.iload_n 2, 1) := by decide +kernel
theorem dX12_worthOf_6 : decode bX12_worthOf.2.1 6 = .ok (.bipush 90, 2) := by decide +kernel
theorem dX12_worthOf_8 : decode bX12_worthOf.2.1 8 = .ok (.iload_n 1, 1) := by decide +kernel
theorem dX12_worthOf_9 : decode bX12_worthOf.2.1 9 = .ok (.imul, 1) := by decide +kernel
theorem dX12_worthOf_10 : decode bX12_worthOf.2.1 10 = .ok (.aload_n 0, 1) := by decide +kernel
theorem dX12_worthOf_11 : decode bX12_worthOf.2.1 11 = .ok (.getfield 22, 3) := by decide +kernel
theorem dX12_worthOf_14 : decode bX12_worthOf.2.1 14 = .ok (.iload_n 1, 1) := by decide +kernel
theorem dX12_worthOf_15 : decode bX12_worthOf.2.1 15 = .ok (.iaload, 1) := by decide +kernel
theorem dX12_worthOf_16 : decode bX12_worthOf.2.1 16 = .ok (.iadd, 1) := by decide +kernel
theorem dX12_worthOf_17 : decode bX12_worthOf.2.1 17 = .ok (.if_icmp .ge 62, 3) := by decide +kernel
theorem dX12_worthOf_20 : decode bX12_worthOf.2.1 20 = .ok (.aload_n 0, 1) := by decide +kernel
theorem dX12_worthOf_21 : decode bX12_worthOf.2.1 21 = .ok (.getfield 25, 3) := by decide +kernel
theorem dX12_worthOf_24 : decode bX12_worthOf.2.1 24 = .ok (.iload_n 2, 1) := by decide +kernel
theorem dX12_worthOf_25 : decode bX12_worthOf.2.1 25 = .ok (.iaload, 1) := by decide +kernel
theorem dX12_worthOf_26 : decode bX12_worthOf.2.1 26 = .ok (.aload_n 0, 1) := by decide +kernel
theorem dX12_worthOf_27 : decode bX12_worthOf.2.1 27 = .ok (.getfield 28, 3) := by decide +kernel
theorem dX12_worthOf_30 : decode bX12_worthOf.2.1 30 = .ok (.iload_n 2, 1) := by decide +kernel
theorem dX12_worthOf_31 : decode bX12_worthOf.2.1 31 = .ok (.iaload, 1) := by decide +kernel
theorem dX12_worthOf_32 : decode bX12_worthOf.2.1 32 = .ok (.if_icmp .eq 23, 3) := by decide +kernel
theorem dX12_worthOf_35 : decode bX12_worthOf.2.1 35 = .ok (.aload_n 0, 1) := by decide +kernel
theorem dX12_worthOf_36 : decode bX12_worthOf.2.1 36 = .ok (.iload_n 1, 1) := by decide +kernel
theorem dX12_worthOf_37 : decode bX12_worthOf.2.1 37 = .ok (.aload_n 0, 1) := by decide +kernel
theorem dX12_worthOf_38 : decode bX12_worthOf.2.1 38 = .ok (.getfield 25, 3) := by decide +kernel
theorem dX12_worthOf_41 : decode bX12_worthOf.2.1 41 = .ok (.iload_n 2, 1) := by decide +kernel
theorem dX12_worthOf_42 : decode bX12_worthOf.2.1 42 = .ok (.iaload, 1) := by decide +kernel
theorem dX12_worthOf_43 : decode bX12_worthOf.2.1 43 = .ok (.aload_n 0, 1) := by decide +kernel
theorem dX12_worthOf_44 : decode bX12_worthOf.2.1 44 = .ok (.getfield 28, 3) := by decide +kernel
theorem dX12_worthOf_47 : decode bX12_worthOf.2.1 47 = .ok (.iload_n 2, 1) := by decide +kernel
theorem dX12_worthOf_48 : decode bX12_worthOf.2.1 48 = .ok (.iaload, 1) := by decide +kernel
theorem dX12_worthOf_49 : decode bX12_worthOf.2.1 49 = .ok (.invokevirtual 225, 3) := by decide +kernel
theorem dX12_worthOf_52 : decode bX12_worthOf.2.1 52 = .ok (.ifCond .eq 21, 3) := by decide +kernel
theorem dX12_worthOf_55 : decode bX12_worthOf.2.1 55 = .ok (.aload_n 0, 1) := by decide +kernel
theorem dX12_worthOf_56 : decode bX12_worthOf.2.1 56 = .ok (.iload_n 1, 1) := by decide +kernel
theorem dX12_worthOf_57 : decode bX12_worthOf.2.1 57 = .ok (.aload_n 0, 1) := by decide +kernel
theorem dX12_worthOf_58 : decode bX12_worthOf.2.1 58 = .ok (.getfield 28, 3) := by decide +kernel
theorem dX12_worthOf_61 : decode bX12_worthOf.2.1 61 = .ok (.iload_n 2, 1) := by decide +kernel
theorem dX12_worthOf_62 : decode bX12_worthOf.2.1 62 = .ok (.iaload, 1) := by decide +kernel
theorem dX12_worthOf_63 : decode bX12_worthOf.2.1 63 = .ok (.aload_n 0, 1) := by decide +kernel
theorem dX12_worthOf_64 : decode bX12_worthOf.2.1 64 = .ok (.getfield 31, 3) := by decide +kernel
theorem dX12_worthOf_67 : decode bX12_worthOf.2.1 67 = .ok (.iload_n 2, 1) := by decide +kernel
theorem dX12_worthOf_68 : decode bX12_worthOf.2.1 68 = .ok (.iaload, 1) := by decide +kernel
theorem dX12_worthOf_69 : decode bX12_worthOf.2.1 69 = .ok (.invokevirtual 225, 3) := by decide +kernel
theorem dX12_worthOf_72 : decode bX12_worthOf.2.1 72 = .ok (.ireturn, 1) := by decide +kernel
theorem dX12_worthOf_73 : decode bX12_worthOf.2.1 73 = .ok (.iinc 2 1, 3) := by decide +kernel
theorem dX12_worthOf_76 : decode bX12_worthOf.2.1 76 = .ok (.goto (-71), 3) := by decide +kernel
theorem dX12_worthOf_79 : decode bX12_worthOf.2.1 79 = .ok (.iconst 0, 1) := by decide +kernel
theorem dX12_worthOf_80 : decode bX12_worthOf.2.1 80 = .ok (.ireturn, 1) := by decide +kernel
theorem dX12_digits_0 : decode bX12_digits.2.1 0 = .ok (.aload_n 0, 1) := by decide +kernel
theorem dX12_digits_1 : decode bX12_digits.2.1 1 = .ok (.invokevirtual 143, 3) := by decide +kernel
theorem dX12_digits_4 : decode bX12_digits.2.1 4 = .ok (.invokestatic 146, 3) := by decide +kernel
theorem dX12_digits_7 : decode bX12_digits.2.1 7 = .ok (.ifCond .ne 9, 3) := by decide +kernel
theorem dX12_digits_10 : decode bX12_digits.2.1 10 = .ok (.aload_n 0, 1) := by decide +kernel
theorem dX12_digits_11 : decode bX12_digits.2.1 11 = .ok (.invokevirtual 140, 3) := by decide +kernel
theorem dX12_digits_14 : decode bX12_digits.2.1 14 = .ok (.iconst 0, 1) := by decide +kernel
theorem dX12_digits_15 : decode bX12_digits.2.1 15 = .ok (.ireturn, 1) := by decide +kernel
theorem dX12_digits_16 : decode bX12_digits.2.1 16 = .ok (.aload_n 0, 1) := by decide +kernel
theorem dX12_digits_17 : decode bX12_digits.2.1 17 = .ok (.invokevirtual 127, 3) := by decide +kernel
theorem dX12_digits_20 : decode bX12_digits.2.1 20 = .ok (.bipush 48, 2) := by decide +kernel
theorem dX12_digits_22 : decode bX12_digits.2.1 22 = .ok (.isub, 1) := by decide +kernel
theorem dX12_digits_23 : decode bX12_digits.2.1 23 = .ok (.istore_n 1, 1) := by decide +kernel
theorem dX12_digits_24 : decode bX12_digits.2.1 24 = .ok (.aload_n 0, 1) := by decide +kernel
theorem dX12_digits_25 : decode bX12_digits.2.1 25 = .ok (.dup, 1) := by decide +kernel
theorem dX12_digits_26 : decode bX12_digits.2.1 26 = .ok (.getfield 124, 3) := by decide +kernel
theorem dX12_digits_29 : decode bX12_digits.2.1 29 = .ok (.iconst 1, 1) := by decide +kernel
theorem dX12_digits_30 : decode bX12_digits.2.1 30 = .ok (.iadd, 1) := by decide +kernel
theorem dX12_digits_31 : decode bX12_digits.2.1 31 = .ok (.putfield 124, 3) := by decide +kernel
theorem dX12_digits_34 : decode bX12_digits.2.1 34 = .ok (.aload_n 0, 1) := by decide +kernel
theorem dX12_digits_35 : decode bX12_digits.2.1 35 = .ok (.invokevirtual 127, 3) := by decide +kernel
theorem dX12_digits_38 : decode bX12_digits.2.1 38 = .ok (.invokestatic 146, 3) := by decide +kernel
theorem dX12_digits_41 : decode bX12_digits.2.1 41 = .ok (.ifCond .eq 26, 3) := by decide +kernel
theorem dX12_digits_44 : decode bX12_digits.2.1 44 = .ok (.bipush 10, 2) := by decide +kernel
theorem dX12_digits_46 : decode bX12_digits.2.1 46 = .ok (.iload_n 1, 1) := by decide +kernel
theorem dX12_digits_47 : decode bX12_digits.2.1 47 = .ok (.imul, 1) := by decide +kernel
theorem dX12_digits_48 : decode bX12_digits.2.1 48 = .ok (.aload_n 0, 1) := by decide +kernel
theorem dX12_digits_49 : decode bX12_digits.2.1 49 = .ok (.invokevirtual 127, 3) := by decide +kernel
theorem dX12_digits_52 : decode bX12_digits.2.1 52 = .ok (.iadd, 1) := by decide +kernel
theorem dX12_digits_53 : decode bX12_digits.2.1 53 = .ok (.bipush 48, 2) := by decide +kernel
theorem dX12_digits_55 : decode bX12_digits.2.1 55 = .ok (.isub, 1) := by decide +kernel
theorem dX12_digits_56 : decode bX12_digits.2.1 56 = .ok (.istore_n 1, 1) := by decide +kernel
theorem dX12_digits_57 : decode bX12_digits.2.1 57 = .ok (.aload_n 0, 1) := by decide +kernel
theorem dX12_digits_58 : decode bX12_digits.2.1 58 = .ok (.dup, 1) := by decide +kernel
theorem dX12_digits_59 : decode bX12_digits.2.1 59 = .ok (.getfield 124, 3) := by decide +kernel
theorem dX12_digits_62 : decode bX12_digits.2.1 62 = .ok (.iconst 1, 1) := by decide +kernel
theorem dX12_digits_63 : decode bX12_digits.2.1 63 = .ok (.iadd, 1) := by decide +kernel
theorem dX12_digits_64 : decode bX12_digits.2.1 64 = .ok (.putfield 124, 3) := by decide +kernel
theorem dX12_digits_67 : decode bX12_digits.2.1 67 = .ok (.aload_n 0, 1) := by decide +kernel
theorem dX12_digits_68 : decode bX12_digits.2.1 68 = .ok (.invokevirtual 127, 3) := by decide +kernel
theorem dX12_digits_71 : decode bX12_digits.2.1 71 = .ok (.invokestatic 146, 3) := by decide +kernel
theorem dX12_digits_74 : decode bX12_digits.2.1 74 = .ok (.ifCond .eq 7, 3) := by decide +kernel
theorem dX12_digits_77 : decode bX12_digits.2.1 77 = .ok (.aload_n 0, 1) := by decide +kernel
theorem dX12_digits_78 : decode bX12_digits.2.1 78 = .ok (.invokevirtual 140, 3) := by decide +kernel
theorem dX12_digits_81 : decode bX12_digits.2.1 81 = .ok (.iload_n 1, 1) := by decide +kernel
theorem dX12_digits_82 : decode bX12_digits.2.1 82 = .ok (.ireturn, 1) := by decide +kernel
theorem dX12_lastBad_0 : decode bX12_lastBad.2.1 0 = .ok (.aload_n 0, 1) := by decide +kernel
theorem dX12_lastBad_1 : decode bX12_lastBad.2.1 1 = .ok (.getfield 131, 3) := by decide +kernel
theorem dX12_lastBad_4 : decode bX12_lastBad.2.1 4 = .ok (.iconst (-1), 1) := by decide +kernel
theorem dX12_lastBad_5 : decode bX12_lastBad.2.1 5 = .ok (.if_icmp .ne 17, 3) := by decide +kernel
theorem dX12_lastBad_8 : decode bX12_lastBad.2.1 8 = .ok (.aload_n 0, 1) := by decide +kernel
theorem dX12_lastBad_9 : decode bX12_lastBad.2.1 9 = .ok (.dup, 1) := by decide +kernel
theorem dX12_lastBad_10 : decode bX12_lastBad.2.1 10 = .ok (.getfield 124, 3) := by decide +kernel
theorem dX12_lastBad_13 : decode bX12_lastBad.2.1 13 = .ok (.iconst 1, 1) := by decide +kernel
theorem dX12_lastBad_14 : decode bX12_lastBad.2.1 14 = .ok (.isub, 1) := by decide +kernel
theorem dX12_lastBad_15 : decode bX12_lastBad.2.1 15 = .ok (.putfield 124, 3) := by decide +kernel
theorem dX12_lastBad_18 : decode bX12_lastBad.2.1 18 = .ok (.aload_n 0, 1) := by decide +kernel
theorem dX12_lastBad_19 : decode bX12_lastBad.2.1 19 = .ok (.invokevirtual 140, 3) := by decide +kernel
theorem dX12_lastBad_22 : decode bX12_lastBad.2.1 22 = .ok (.return_, 1) := by decide +kernel
theorem dX12_speechText_0 : decode bX12_speechText.2.1 0 = .ok (.aload_n 0, 1) := by decide +kernel
theorem dX12_speechText_1 : decode bX12_speechText.2.1 1 = .ok (.invokevirtual 143, 3) := by decide +kernel
theorem dX12_speechText_4 : decode bX12_speechText.2.1 4 = .ok (.bipush 65, 2) := by decide +kernel
theorem dX12_speechText_6 : decode bX12_speechText.2.1 6 = .ok (.isub, 1) := by decide +kernel
theorem dX12_speechText_7 : decode bX12_speechText.2.1 7 = .ok (.istore_n 1, 1) := by decide +kernel
theorem dX12_speechText_8 : decode bX12_speechText.2.1 8 = .ok (.iload_n 1, 1) := by decide +kernel
theorem dX12_speechText_9 : decode bX12_speechText.2.1 9 = .ok (.iconst 0, 1) := by decide +kernel
theorem dX12_speechText_10 : decode bX12_speechText.2.1 10 = .ok (.bipush 7, 2) := by decide +kernel
theorem dX12_speechText_12 : decode bX12_speechText.2.1 12 = .ok (.invokestatic 229, 3) := by decide +kernel
theorem dX12_speechText_15 : decode bX12_speechText.2.1 15 = .ok (.ifCond .ne 8, 3) := by decide +kernel
theorem dX12_speechText_18 : decode bX12_speechText.2.1 18 = .ok (.aload_n 0, 1) := by decide +kernel
theorem dX12_speechText_19 : decode bX12_speechText.2.1 19 = .ok (.invokevirtual 140, 3) := by decide +kernel
theorem dX12_speechText_22 : decode bX12_speechText.2.1 22 = .ok (.return_, 1) := by decide +kernel
theorem dX12_speechText_23 : decode bX12_speechText.2.1 23 = .ok (.aload_n 0, 1) := by decide +kernel
theorem dX12_speechText_24 : decode bX12_speechText.2.1 24 = .ok (.dup, 1) := by decide +kernel
theorem dX12_speechText_25 : decode bX12_speechText.2.1 25 = .ok (.getfield 124, 3) := by decide +kernel
theorem dX12_speechText_28 : decode bX12_speechText.2.1 28 = .ok (.iconst 1, 1) := by decide +kernel
theorem dX12_speechText_29 : decode bX12_speechText.2.1 29 = .ok (.iadd, 1) := by decide +kernel
theorem dX12_speechText_30 : decode bX12_speechText.2.1 30 = .ok (.putfield 124, 3) := by decide +kernel
theorem dX12_speechText_33 : decode bX12_speechText.2.1 33 = .ok (.aload_n 0, 1) := by decide +kernel
theorem dX12_speechText_34 : decode bX12_speechText.2.1 34 = .ok (.invokevirtual 143, 3) := by decide +kernel
theorem dX12_speechText_37 : decode bX12_speechText.2.1 37 = .ok (.bipush 97, 2) := by decide +kernel
theorem dX12_speechText_39 : decode bX12_speechText.2.1 39 = .ok (.isub, 1) := by decide +kernel
theorem dX12_speechText_40 : decode bX12_speechText.2.1 40 = .ok (.istore_n 2, 1) := by decide +kernel
theorem dX12_speechText_41 : decode bX12_speechText.2.1 41 = .ok (.iload_n 2, 1) := by decide +kernel
theorem dX12_speechText_42 : decode bX12_speechText.2.1 42 = .ok (.iconst 0, 1) := by decide +kernel
theorem dX12_speechText_43 : decode bX12_speechText.2.1 43 = .ok (.bipush 25, 2) := by decide +kernel
theorem dX12_speechText_45 : decode bX12_speechText.2.1 45 = .ok (.invokestatic 229, 3) := by decide +kernel
theorem dX12_speechText_48 : decode bX12_speechText.2.1 48 = .ok (.ifCond .ne 8, 3) := by decide +kernel
theorem dX12_speechText_51 : decode bX12_speechText.2.1 51 = .ok (.aload_n 0, 1) := by decide +kernel
theorem dX12_speechText_52 : decode bX12_speechText.2.1 52 = .ok (.invokevirtual 140, 3) := by decide +kernel
theorem dX12_speechText_55 : decode bX12_speechText.2.1 55 = .ok (.return_, 1) := by decide +kernel
theorem dX12_speechText_56 : decode bX12_speechText.2.1 56 = .ok (.aload_n 0, 1) := by decide +kernel
theorem dX12_speechText_57 : decode bX12_speechText.2.1 57 = .ok (.dup, 1) := by decide +kernel
theorem dX12_speechText_58 : decode bX12_speechText.2.1 58 = .ok (.getfield 124, 3) := by decide +kernel
theorem dX12_speechText_61 : decode bX12_speechText.2.1 61 = .ok (.iconst 1, 1) := by decide +kernel
theorem dX12_speechText_62 : decode bX12_speechText.2.1 62 = .ok (.iadd, 1) := by decide +kernel
theorem dX12_speechText_63 : decode bX12_speechText.2.1 63 = .ok (.putfield 124, 3) := by decide +kernel
theorem dX12_speechText_66 : decode bX12_speechText.2.1 66 = .ok (.iconst 5, 1) := by decide +kernel
theorem dX12_speechText_67 : decode bX12_speechText.2.1 67 = .ok (.istore_n 3, 1) := by decide +kernel
theorem dX12_speechText_68 : decode bX12_speechText.2.1 68 = .ok (.aload_n 0, 1) := by decide +kernel
theorem dX12_speechText_69 : decode bX12_speechText.2.1 69 = .ok (.invokevirtual 143, 3) := by decide +kernel
theorem dX12_speechText_72 : decode bX12_speechText.2.1 72 = .ok (.invokestatic 146, 3) := by decide +kernel
theorem dX12_speechText_75 : decode bX12_speechText.2.1 75 = .ok (.ifCond .eq 16, 3) := by decide +kernel
theorem dX12_speechText_78 : decode bX12_speechText.2.1 78 = .ok (.aload_n 0, 1) := by decide +kernel
theorem dX12_speechText_79 : decode bX12_speechText.2.1 79 = .ok (.invokevirtual 233, 3) := by decide +kernel
theorem dX12_speechText_82 : decode bX12_speechText.2.1 82 = .ok (.istore_n 3, 1) := by decide +kernel
theorem dX12_speechText_83 : decode bX12_speechText.2.1 83 = .ok (.iload_n 3, 1) := by decide +kernel
theorem dX12_speechText_84 : decode bX12_speechText.2.1 84 = .ok (.ifCond .ne 7, 3) := by decide +kernel
theorem dX12_speechText_87 : decode bX12_speechText.2.1 87 = .ok (.aload_n 0, 1) := by decide +kernel
theorem dX12_speechText_88 : decode bX12_speechText.2.1 88 = .ok (.invokevirtual 236, 3) := by decide +kernel
theorem dX12_speechText_91 : decode bX12_speechText.2.1 91 = .ok (.aload_n 0, 1) := by decide +kernel
theorem dX12_speechText_92 : decode bX12_speechText.2.1 92 = .ok (.getfield 40, 3) := by decide +kernel
theorem dX12_speechText_95 : decode bX12_speechText.2.1 95 = .ok (.aload_n 0, 1) := by decide +kernel
theorem dX12_speechText_96 : decode bX12_speechText.2.1 96 = .ok (.getfield 239, 3) := by decide +kernel
theorem dX12_speechText_99 : decode bX12_speechText.2.1 99 = .ok (.iload_n 1, 1) := by decide +kernel
theorem dX12_speechText_100 : decode bX12_speechText.2.1 100 = .ok (.iastore, 1) := by decide +kernel
theorem dX12_speechText_101 : decode bX12_speechText.2.1 101 = .ok (.aload_n 0, 1) := by decide +kernel
theorem dX12_speechText_102 : decode bX12_speechText.2.1 102 = .ok (.getfield 43, 3) := by decide +kernel
theorem dX12_speechText_105 : decode bX12_speechText.2.1 105 = .ok (.aload_n 0, 1) := by decide +kernel
theorem dX12_speechText_106 : decode bX12_speechText.2.1 106 = .ok (.getfield 239, 3) := by decide +kernel
theorem dX12_speechText_109 : decode bX12_speechText.2.1 109 = .ok (.iload_n 2, 1) := by decide +kernel
theorem dX12_speechText_110 : decode bX12_speechText.2.1 110 = .ok (.iastore, 1) := by decide +kernel
theorem dX12_speechText_111 : decode bX12_speechText.2.1 111 = .ok (.aload_n 0, 1) := by decide +kernel
theorem dX12_speechText_112 : decode bX12_speechText.2.1 112 = .ok (.getfield 46, 3) := by decide +kernel
theorem dX12_speechText_115 : decode bX12_speechText.2.1 115 = .ok (.aload_n 0, 1) := by decide +kernel
theorem dX12_speechText_116 : decode bX12_speechText.2.1 116 = .ok (.getfield 239, 3) := by decide +kernel
theorem dX12_speechText_119 : decode bX12_speechText.2.1 119 = .ok (.iload_n 3, 1) := by decide +kernel
theorem dX12_speechText_120 : decode bX12_speechText.2.1 120 = .ok (.iastore, 1) := by decide +kernel
theorem dX12_speechText_121 : decode bX12_speechText.2.1 121 = .ok (.aload_n 0, 1) := by decide +kernel
theorem dX12_speechText_122 : decode bX12_speechText.2.1 122 = .ok (.dup, 1) := by decide +kernel
theorem dX12_speechText_123 : decode bX12_speechText.2.1 123 = .ok (.getfield 239, 3) := by decide +kernel
theorem dX12_speechText_126 : decode bX12_speechText.2.1 126 = .ok (.iconst 1, 1) := by decide +kernel
theorem dX12_speechText_127 : decode bX12_speechText.2.1 127 = .ok (.iadd, 1) := by decide +kernel
theorem dX12_speechText_128 : decode bX12_speechText.2.1 128 = .ok (.putfield 239, 3) := by decide +kernel
theorem dX12_speechText_131 : decode bX12_speechText.2.1 131 = .ok (.return_, 1) := by decide +kernel
theorem dX12_cutText_0 : decode bX12_cutText.2.1 0 = .ok (.aload_n 0, 1) := by decide +kernel
theorem dX12_cutText_1 : decode bX12_cutText.2.1 1 = .ok (.invokevirtual 233, 3) := by decide +kernel
theorem dX12_cutText_4 : decode bX12_cutText.2.1 4 = .ok (.istore_n 2, 1) := by decide +kernel
theorem dX12_cutText_5 : decode bX12_cutText.2.1 5 = .ok (.iload_n 2, 1) := by decide +kernel
theorem dX12_cutText_6 : decode bX12_cutText.2.1 6 = .ok (.iload_n 1, 1) := by decide +kernel
theorem dX12_cutText_7 : decode bX12_cutText.2.1 7 = .ok (.iconst 1, 1) := by decide +kernel
theorem dX12_cutText_8 : decode bX12_cutText.2.1 8 = .ok (.iadd, 1) := by decide +kernel
theorem dX12_cutText_9 : decode bX12_cutText.2.1 9 = .ok (.aload_n 0, 1) := by decide +kernel
theorem dX12_cutText_10 : decode bX12_cutText.2.1 10 = .ok (.getfield 239, 3) := by decide +kernel
theorem dX12_cutText_13 : decode bX12_cutText.2.1 13 = .ok (.iconst 1, 1) := by decide +kernel
theorem dX12_cutText_14 : decode bX12_cutText.2.1 14 = .ok (.isub, 1) := by decide +kernel
theorem dX12_cutText_15 : decode bX12_cutText.2.1 15 = .ok (.invokestatic 229, 3) := by decide +kernel
theorem dX12_cutText_18 : decode bX12_cutText.2.1 18 = .ok (.ifCond .ne 7, 3) := by decide +kernel
theorem dX12_cutText_21 : decode bX12_cutText.2.1 21 = .ok (.aload_n 0, 1) := by decide +kernel
theorem dX12_cutText_22 : decode bX12_cutText.2.1 22 = .ok (.invokevirtual 236, 3) := by decide +kernel
theorem dX12_cutText_25 : decode bX12_cutText.2.1 25 = .ok (.aload_n 0, 1) := by decide +kernel
theorem dX12_cutText_26 : decode bX12_cutText.2.1 26 = .ok (.getfield 131, 3) := by decide +kernel
theorem dX12_cutText_29 : decode bX12_cutText.2.1 29 = .ok (.iconst (-1), 1) := by decide +kernel
theorem dX12_cutText_30 : decode bX12_cutText.2.1 30 = .ok (.if_icmp .ne 16, 3) := by decide +kernel
theorem dX12_cutText_33 : decode bX12_cutText.2.1 33 = .ok (.aload_n 0, 1) := by decide +kernel
theorem dX12_cutText_34 : decode bX12_cutText.2.1 34 = .ok (.invokevirtual 143, 3) := by decide +kernel
theorem dX12_cutText_37 : decode bX12_cutText.2.1 37 = .ok (.bipush 45, 2) := by decide +kernel
theorem dX12_cutText_39 : decode bX12_cutText.2.1 39 = .ok (.if_icmp .eq 7, 3) := by decide +kernel
theorem dX12_cutText_42 : decode bX12_cutText.2.1 42 = .ok (.aload_n 0, 1) := by decide +kernel
theorem dX12_cutText_43 : decode bX12_cutText.2.1 43 = .ok (.invokevirtual 140, 3) := by decide +kernel
theorem dX12_cutText_46 : decode bX12_cutText.2.1 46 = .ok (.aload_n 0, 1) := by decide +kernel
theorem dX12_cutText_47 : decode bX12_cutText.2.1 47 = .ok (.getfield 131, 3) := by decide +kernel
theorem dX12_cutText_50 : decode bX12_cutText.2.1 50 = .ok (.iconst (-1), 1) := by decide +kernel
theorem dX12_cutText_51 : decode bX12_cutText.2.1 51 = .ok (.if_icmp .eq 4, 3) := by decide +kernel
theorem dX12_cutText_54 : decode bX12_cutText.2.1 54 = .ok (.return_, 1) := by decide +kernel
theorem dX12_cutText_55 : decode bX12_cutText.2.1 55 = .ok (.aload_n 0, 1) := by decide +kernel
theorem dX12_cutText_56 : decode bX12_cutText.2.1 56 = .ok (.dup, 1) := by decide +kernel
theorem dX12_cutText_57 : decode bX12_cutText.2.1 57 = .ok (.getfield 124, 3) := by decide +kernel
theorem dX12_cutText_60 : decode bX12_cutText.2.1 60 = .ok (.iconst 1, 1) := by decide +kernel
theorem dX12_cutText_61 : decode bX12_cutText.2.1 61 = .ok (.iadd, 1) := by decide +kernel
theorem dX12_cutText_62 : decode bX12_cutText.2.1 62 = .ok (.putfield 124, 3) := by decide +kernel
theorem dX12_cutText_65 : decode bX12_cutText.2.1 65 = .ok (.aload_n 0, 1) := by decide +kernel
theorem dX12_cutText_66 : decode bX12_cutText.2.1 66 = .ok (.invokevirtual 233, 3) := by decide +kernel
theorem dX12_cutText_69 : decode bX12_cutText.2.1 69 = .ok (.istore_n 3, 1) := by decide +kernel
theorem dX12_cutText_70 : decode bX12_cutText.2.1 70 = .ok (.iload_n 3, 1) := by decide +kernel
theorem dX12_cutText_71 : decode bX12_cutText.2.1 71 = .ok (.iload_n 2, 1) := by decide +kernel
theorem dX12_cutText_72 : decode bX12_cutText.2.1 72 = .ok (.aload_n 0, 1) := by decide +kernel
theorem dX12_cutText_73 : decode bX12_cutText.2.1 73 = .ok (.getfield 239, 3) := by decide +kernel
theorem dX12_cutText_76 : decode bX12_cutText.2.1 76 = .ok (.iconst 1, 1) := by decide +kernel
theorem dX12_cutText_77 : decode bX12_cutText.2.1 77 = .ok (.isub, 1) := by decide +kernel
theorem dX12_cutText_78 : decode bX12_cutText.2.1 78 = .ok (.invokestatic 229, 3) := by decide +kernel
theorem dX12_cutText_81 : decode bX12_cutText.2.1 81 = .ok (.ifCond .eq 25, 3) := by decide +kernel
theorem dX12_cutText_84 : decode bX12_cutText.2.1 84 = .ok (.aload_n 0, 1) := by decide +kernel
theorem dX12_cutText_85 : decode bX12_cutText.2.1 85 = .ok (.getfield 239, 3) := by decide +kernel
theorem dX12_cutText_88 : decode bX12_cutText.2.1 88 = .ok (.aload_n 0, 1) := by decide +kernel
theorem dX12_cutText_89 : decode bX12_cutText.2.1 89 = .ok (.getfield 242, 3) := by decide +kernel
theorem dX12_cutText_92 : decode bX12_cutText.2.1 92 = .ok (.invokestatic 245, 3) := by decide +kernel
theorem dX12_cutText_95 : decode bX12_cutText.2.1 95 = .ok (.isub, 1) := by decide +kernel
theorem dX12_cutText_96 : decode bX12_cutText.2.1 96 = .ok (.iload_n 3, 1) := by decide +kernel
theorem dX12_cutText_97 : decode bX12_cutText.2.1 97 = .ok (.iload_n 2, 1) := by decide +kernel
theorem dX12_cutText_98 : decode bX12_cutText.2.1 98 = .ok (.isub, 1) := by decide +kernel
theorem dX12_cutText_99 : decode bX12_cutText.2.1 99 = .ok (.iconst 1, 1) := by decide +kernel
theorem dX12_cutText_100 : decode bX12_cutText.2.1 100 = .ok (.iadd, 1) := by decide +kernel
theorem dX12_cutText_101 : decode bX12_cutText.2.1 101 = .ok (.isub, 1) := by decide +kernel
theorem dX12_cutText_102 : decode bX12_cutText.2.1 102 = .ok (.iconst 2, 1) := by decide +kernel
theorem dX12_cutText_103 : decode bX12_cutText.2.1 103 = .ok (.if_icmp .ge 7, 3) := by decide +kernel
theorem dX12_cutText_106 : decode bX12_cutText.2.1 106 = .ok (.aload_n 0, 1) := by decide +kernel
theorem dX12_cutText_107 : decode bX12_cutText.2.1 107 = .ok (.invokevirtual 236, 3) := by decide +kernel
theorem dX12_cutText_110 : decode bX12_cutText.2.1 110 = .ok (.iload_n 2, 1) := by decide +kernel
theorem dX12_cutText_111 : decode bX12_cutText.2.1 111 = .ok (.istore 4, 2) := by decide +kernel
theorem dX12_cutText_113 : decode bX12_cutText.2.1 113 = .ok (.iload 4, 2) := by decide +kernel
theorem dX12_cutText_115 : decode bX12_cutText.2.1 115 = .ok (.iload_n 3, 1) := by decide +kernel
theorem dX12_cutText_116 : decode bX12_cutText.2.1 116 = .ok (.if_icmp .gt 30, 3) := by decide +kernel
theorem dX12_cutText_119 : decode bX12_cutText.2.1 119 = .ok (.aload_n 0, 1) := by decide +kernel
theorem dX12_cutText_120 : decode bX12_cutText.2.1 120 = .ok (.getfield 131, 3) := by decide +kernel
theorem dX12_cutText_123 : decode bX12_cutText.2.1 123 = .ok (.iconst (-1), 1) := by decide +kernel
theorem dX12_cutText_124 : decode bX12_cutText.2.1 124 = .ok (.if_icmp .ne 22, 3) := by decide +kernel
theorem dX12_cutText_127 : decode bX12_cutText.2.1 127 = .ok (.aload_n 0, 1) := by decide +kernel
theorem dX12_cutText_128 : decode bX12_cutText.2.1 128 = .ok (.dup, 1) := by decide +kernel
theorem dX12_cutText_129 : decode bX12_cutText.2.1 129 = .ok (.getfield 242, 3) := by decide +kernel
theorem dX12_cutText_132 : decode bX12_cutText.2.1 132 = .ok (.iconst 1, 1) := by decide +kernel
theorem dX12_cutText_133 : decode bX12_cutText.2.1 133 = .ok (.iload 4, 2) := by decide +kernel
theorem dX12_cutText_135 : decode bX12_cutText.2.1 135 = .ok (.ishl, 1) := by decide +kernel
theorem dX12_cutText_136 : decode bX12_cutText.2.1 136 = .ok (.ior, 1) := by decide +kernel
theorem dX12_cutText_137 : decode bX12_cutText.2.1 137 = .ok (.putfield 242, 3) := by decide +kernel
theorem dX12_cutText_140 : decode bX12_cutText.2.1 140 = .ok (.iinc 4 1, 3) := by decide +kernel
theorem dX12_cutText_143 : decode bX12_cutText.2.1 143 = .ok (.goto (-30), 3) := by decide +kernel
theorem dX12_cutText_146 : decode bX12_cutText.2.1 146 = .ok (.return_, 1) := by decide +kernel
theorem dX12_readBook_0 : decode bX12_readBook.2.1 0 = .ok (.aload_n 0, 1) := by decide +kernel
theorem dX12_readBook_1 : decode bX12_readBook.2.1 1 = .ok (.iconst 0, 1) := by decide +kernel
theorem dX12_readBook_2 : decode bX12_readBook.2.1 2 = .ok (.putfield 124, 3) := by decide +kernel
theorem dX12_readBook_5 : decode bX12_readBook.2.1 5 = .ok (.aload_n 0, 1) := by decide +kernel
theorem dX12_readBook_6 : decode bX12_readBook.2.1 6 = .ok (.iconst (-1), 1) := by decide +kernel
theorem dX12_readBook_7 : decode bX12_readBook.2.1 7 = .ok (.putfield 131, 3) := by decide +kernel
theorem dX12_readBook_10 : decode bX12_readBook.2.1 10 = .ok (.aload_n 0, 1) := by decide +kernel
theorem dX12_readBook_11 : decode bX12_readBook.2.1 11 = .ok (.iconst 0, 1) := by decide +kernel
theorem dX12_readBook_12 : decode bX12_readBook.2.1 12 = .ok (.putfield 239, 3) := by decide +kernel
theorem dX12_readBook_15 : decode bX12_readBook.2.1 15 = .ok (.aload_n 0, 1) := by decide +kernel
theorem dX12_readBook_16 : decode bX12_readBook.2.1 16 = .ok (.iconst 0, 1) := by decide +kernel
theorem dX12_readBook_17 : decode bX12_readBook.2.1 17 = .ok (.putfield 242, 3) := by decide +kernel
theorem dX12_readBook_20 : decode bX12_readBook.2.1 20 = .ok (.iconst 1, 1) := by decide +kernel
theorem dX12_readBook_21 : decode bX12_readBook.2.1 21 = .ok (.istore_n 1, 1) := by decide +kernel
theorem dX12_readBook_22 : decode bX12_readBook.2.1 22 = .ok (.iload_n 1, 1) := by decide +kernel
theorem dX12_readBook_23 : decode bX12_readBook.2.1 23 = .ok (.ifCond .eq 68, 3) := by decide +kernel
theorem dX12_readBook_26 : decode bX12_readBook.2.1 26 = .ok (.aload_n 0, 1) := by decide +kernel
theorem dX12_readBook_27 : decode bX12_readBook.2.1 27 = .ok (.getfield 131, 3) := by decide +kernel
theorem dX12_readBook_30 : decode bX12_readBook.2.1 30 = .ok (.iconst (-1), 1) := by decide +kernel
theorem dX12_readBook_31 : decode bX12_readBook.2.1 31 = .ok (.if_icmp .ne 60, 3) := by decide +kernel
theorem dX12_readBook_34 : decode bX12_readBook.2.1 34 = .ok (.aload_n 0, 1) := by decide +kernel
theorem dX12_readBook_35 : decode bX12_readBook.2.1 35 = .ok (.invokevirtual 250, 3) := by decide +kernel
theorem dX12_readBook_38 : decode bX12_readBook.2.1 38 = .ok (.aload_n 0, 1) := by decide +kernel
theorem dX12_readBook_39 : decode bX12_readBook.2.1 39 = .ok (.getfield 131, 3) := by decide +kernel
theorem dX12_readBook_42 : decode bX12_readBook.2.1 42 = .ok (.iconst (-1), 1) := by decide +kernel
theorem dX12_readBook_43 : decode bX12_readBook.2.1 43 = .ok (.if_icmp .ne 25, 3) := by decide +kernel
theorem dX12_readBook_46 : decode bX12_readBook.2.1 46 = .ok (.aload_n 0, 1) := by decide +kernel
theorem dX12_readBook_47 : decode bX12_readBook.2.1 47 = .ok (.invokevirtual 143, 3) := by decide +kernel
theorem dX12_readBook_50 : decode bX12_readBook.2.1 50 = .ok (.bipush 44, 2) := by decide +kernel
theorem dX12_readBook_52 : decode bX12_readBook.2.1 52 = .ok (.if_icmp .ne 16, 3) := by decide +kernel
theorem dX12_readBook_55 : decode bX12_readBook.2.1 55 = .ok (.aload_n 0, 1) := by decide +kernel
theorem dX12_readBook_56 : decode bX12_readBook.2.1 56 = .ok (.getfield 239, 3) := by decide +kernel
theorem dX12_readBook_59 : decode bX12_readBook.2.1 59 = .ok (.bipush 24, 2) := by decide +kernel
theorem dX12_readBook_61 : decode bX12_readBook.2.1 61 = .ok (.if_icmp .ge 7, 3) := by decide +kernel
theorem dX12_readBook_64 : decode bX12_readBook.2.1 64 = .ok (.iconst 1, 1) := by decide +kernel
theorem dX12_readBook_65 : decode bX12_readBook.2.1 65 = .ok (.goto 4, 3) := by decide +kernel
theorem dX12_readBook_68 : decode bX12_readBook.2.1 68 = .ok (.iconst 0, 1) := by decide +kernel
theorem dX12_readBook_69 : decode bX12_readBook.2.1 69 = .ok (.istore_n 1, 1) := by decide +kernel
theorem dX12_readBook_70 : decode bX12_readBook.2.1 70 = .ok (.aload_n 0, 1) := by decide +kernel
theorem dX12_readBook_71 : decode bX12_readBook.2.1 71 = .ok (.dup, 1) := by decide +kernel
theorem dX12_readBook_72 : decode bX12_readBook.2.1 72 = .ok (.getfield 124, 3) := by decide +kernel
theorem dX12_readBook_75 : decode bX12_readBook.2.1 75 = .ok (.iload_n 1, 1) := by decide +kernel
theorem dX12_readBook_76 : decode bX12_readBook.2.1 76 = .ok (.ifCond .eq 7, 3) := by decide +kernel
theorem dX12_readBook_79 : decode bX12_readBook.2.1 79 = .ok (.iconst 1, 1) := by decide +kernel
theorem dX12_readBook_80 : decode bX12_readBook.2.1 80 = .ok (.goto 4, 3) := by decide +kernel
theorem dX12_readBook_83 : decode bX12_readBook.2.1 83 = .ok (.iconst 0, 1) := by decide +kernel
theorem dX12_readBook_84 : decode bX12_readBook.2.1 84 = .ok (.iadd, 1) := by decide +kernel
theorem dX12_readBook_85 : decode bX12_readBook.2.1 85 = .ok (.putfield 124, 3) := by decide +kernel
theorem dX12_readBook_88 : decode bX12_readBook.2.1 88 = .ok (.goto (-66), 3) := by decide +kernel
theorem dX12_readBook_91 : decode bX12_readBook.2.1 91 = .ok (.aload_n 0, 1) := by decide +kernel
theorem dX12_readBook_92 : decode bX12_readBook.2.1 92 = .ok (.getfield 131, 3) := by decide +kernel
theorem dX12_readBook_95 : decode bX12_readBook.2.1 95 = .ok (.iconst (-1), 1) := by decide +kernel
theorem dX12_readBook_96 : decode bX12_readBook.2.1 96 = .ok (.if_icmp .ne 15, 3) := by decide +kernel
theorem dX12_readBook_99 : decode bX12_readBook.2.1 99 = .ok (.aload_n 0, 1) := by decide +kernel
theorem dX12_readBook_100 : decode bX12_readBook.2.1 100 = .ok (.getfield 239, 3) := by decide +kernel
theorem dX12_readBook_103 : decode bX12_readBook.2.1 103 = .ok (.iconst 2, 1) := by decide +kernel
theorem dX12_readBook_104 : decode bX12_readBook.2.1 104 = .ok (.if_icmp .ge 7, 3) := by decide +kernel
theorem dX12_readBook_107 : decode bX12_readBook.2.1 107 = .ok (.aload_n 0, 1) := by decide +kernel
theorem dX12_readBook_108 : decode bX12_readBook.2.1 108 = .ok (.invokevirtual 140, 3) := by decide +kernel
theorem dX12_readBook_111 : decode bX12_readBook.2.1 111 = .ok (.aload_n 0, 1) := by decide +kernel
theorem dX12_readBook_112 : decode bX12_readBook.2.1 112 = .ok (.getfield 131, 3) := by decide +kernel
theorem dX12_readBook_115 : decode bX12_readBook.2.1 115 = .ok (.iconst (-1), 1) := by decide +kernel
theorem dX12_readBook_116 : decode bX12_readBook.2.1 116 = .ok (.if_icmp .ne 105, 3) := by decide +kernel
theorem dX12_readBook_119 : decode bX12_readBook.2.1 119 = .ok (.aload_n 0, 1) := by decide +kernel
theorem dX12_readBook_120 : decode bX12_readBook.2.1 120 = .ok (.invokevirtual 143, 3) := by decide +kernel
theorem dX12_readBook_123 : decode bX12_readBook.2.1 123 = .ok (.bipush 59, 2) := by decide +kernel
theorem dX12_readBook_125 : decode bX12_readBook.2.1 125 = .ok (.if_icmp .ne 96, 3) := by decide +kernel
theorem dX12_readBook_128 : decode bX12_readBook.2.1 128 = .ok (.aload_n 0, 1) := by decide +kernel
theorem dX12_readBook_129 : decode bX12_readBook.2.1 129 = .ok (.dup, 1) := by decide +kernel
theorem dX12_readBook_130 : decode bX12_readBook.2.1 130 = .ok (.getfield 124, 3) := by decide +kernel
theorem dX12_readBook_133 : decode bX12_readBook.2.1 133 = .ok (.iconst 1, 1) := by decide +kernel
theorem dX12_readBook_134 : decode bX12_readBook.2.1 134 = .ok (.iadd, 1) := by decide +kernel
theorem dX12_readBook_135 : decode bX12_readBook.2.1 135 = .ok (.putfield 124, 3) := by decide +kernel
theorem dX12_readBook_138 : decode bX12_readBook.2.1 138 = .ok (.iconst 1, 1) := by decide +kernel
theorem dX12_readBook_139 : decode bX12_readBook.2.1 139 = .ok (.istore_n 1, 1) := by decide +kernel
theorem dX12_readBook_140 : decode bX12_readBook.2.1 140 = .ok (.iload_n 1, 1) := by decide +kernel
theorem dX12_readBook_141 : decode bX12_readBook.2.1 141 = .ok (.ifCond .eq 80, 3) := by decide +kernel
theorem dX12_readBook_144 : decode bX12_readBook.2.1 144 = .ok (.aload_n 0, 1) := by decide +kernel
theorem dX12_readBook_145 : decode bX12_readBook.2.1 145 = .ok (.getfield 131, 3) := by decide +kernel
theorem dX12_readBook_148 : decode bX12_readBook.2.1 148 = .ok (.iconst (-1), 1) := by decide +kernel
theorem dX12_readBook_149 : decode bX12_readBook.2.1 149 = .ok (.if_icmp .ne 72, 3) := by decide +kernel
theorem dX12_readBook_152 : decode bX12_readBook.2.1 152 = .ok (.aload_n 0, 1) := by decide +kernel
theorem dX12_readBook_153 : decode bX12_readBook.2.1 153 = .ok (.aload_n 0, 1) := by decide +kernel
theorem dX12_readBook_154 : decode bX12_readBook.2.1 154 = .ok (.getfield 242, 3) := by decide +kernel
theorem dX12_readBook_157 : decode bX12_readBook.2.1 157 = .ok (.ifCond .ne 7, 3) := by decide +kernel
theorem dX12_readBook_160 : decode bX12_readBook.2.1 160 = .ok (.iconst (-1), 1) := by decide +kernel
theorem dX12_readBook_161 : decode bX12_readBook.2.1 161 = .ok (.goto 13, 3) := by decide +kernel
theorem dX12_readBook_164 : decode bX12_readBook.2.1 164 = .ok (.bipush 31, 2) := by decide +kernel
theorem dX12_readBook_166 : decode bX12_readBook.2.1 166 = .ok (.aload_n 0, 1) := by decide +kernel
theorem dX12_readBook_167 : decode bX12_readBook.2.1 167 = .ok (.getfield 242, 3) := by decide +kernel
theorem dX12_readBook_170 : decode bX12_readBook.2.1 170 = .ok (.invokestatic 253, 3) := by decide +kernel
theorem dX12_readBook_173 : decode bX12_readBook.2.1 173 = .ok (.isub, 1) := by decide +kernel
theorem dX12_readBook_174 : decode bX12_readBook.2.1 174 = .ok (.invokevirtual 256, 3) := by decide +kernel
theorem dX12_readBook_177 : decode bX12_readBook.2.1 177 = .ok (.aload_n 0, 1) := by decide +kernel
theorem dX12_readBook_178 : decode bX12_readBook.2.1 178 = .ok (.getfield 131, 3) := by decide +kernel
theorem dX12_readBook_181 : decode bX12_readBook.2.1 181 = .ok (.iconst (-1), 1) := by decide +kernel
theorem dX12_readBook_182 : decode bX12_readBook.2.1 182 = .ok (.if_icmp .ne 16, 3) := by decide +kernel
theorem dX12_readBook_185 : decode bX12_readBook.2.1 185 = .ok (.aload_n 0, 1) := by decide +kernel
theorem dX12_readBook_186 : decode bX12_readBook.2.1 186 = .ok (.invokevirtual 143, 3) := by decide +kernel
theorem dX12_readBook_189 : decode bX12_readBook.2.1 189 = .ok (.bipush 44, 2) := by decide +kernel
theorem dX12_readBook_191 : decode bX12_readBook.2.1 191 = .ok (.if_icmp .ne 7, 3) := by decide +kernel
theorem dX12_readBook_194 : decode bX12_readBook.2.1 194 = .ok (.iconst 1, 1) := by decide +kernel
theorem dX12_readBook_195 : decode bX12_readBook.2.1 195 = .ok (.goto 4, 3) := by decide +kernel
theorem dX12_readBook_198 : decode bX12_readBook.2.1 198 = .ok (.iconst 0, 1) := by decide +kernel
theorem dX12_readBook_199 : decode bX12_readBook.2.1 199 = .ok (.istore_n 1, 1) := by decide +kernel
theorem dX12_readBook_200 : decode bX12_readBook.2.1 200 = .ok (.aload_n 0, 1) := by decide +kernel
theorem dX12_readBook_201 : decode bX12_readBook.2.1 201 = .ok (.dup, 1) := by decide +kernel
theorem dX12_readBook_202 : decode bX12_readBook.2.1 202 = .ok (.getfield 124, 3) := by decide +kernel
theorem dX12_readBook_205 : decode bX12_readBook.2.1 205 = .ok (.iload_n 1, 1) := by decide +kernel
theorem dX12_readBook_206 : decode bX12_readBook.2.1 206 = .ok (.ifCond .eq 7, 3) := by decide +kernel
theorem dX12_readBook_209 : decode bX12_readBook.2.1 209 = .ok (.iconst 1, 1) := by decide +kernel
theorem dX12_readBook_210 : decode bX12_readBook.2.1 210 = .ok (.goto 4, 3) := by decide +kernel
theorem dX12_readBook_213 : decode bX12_readBook.2.1 213 = .ok (.iconst 0, 1) := by decide +kernel
theorem dX12_readBook_214 : decode bX12_readBook.2.1 214 = .ok (.iadd, 1) := by decide +kernel
theorem dX12_readBook_215 : decode bX12_readBook.2.1 215 = .ok (.putfield 124, 3) := by decide +kernel
theorem dX12_readBook_218 : decode bX12_readBook.2.1 218 = .ok (.goto (-78), 3) := by decide +kernel
theorem dX12_readBook_221 : decode bX12_readBook.2.1 221 = .ok (.aload_n 0, 1) := by decide +kernel
theorem dX12_readBook_222 : decode bX12_readBook.2.1 222 = .ok (.invokevirtual 201, 3) := by decide +kernel
theorem dX12_readBook_225 : decode bX12_readBook.2.1 225 = .ok (.ireturn, 1) := by decide +kernel
theorem dX12_fault_0 : decode bX12_fault.2.1 0 = .ok (.iload_n 1, 1) := by decide +kernel
theorem dX12_fault_1 : decode bX12_fault.2.1 1 = .ok (.ifCond .ne 10, 3) := by decide +kernel
theorem dX12_fault_4 : decode bX12_fault.2.1 4 = .ok (.aload_n 0, 1) := by decide +kernel
theorem dX12_fault_5 : decode bX12_fault.2.1 5 = .ok (.invokevirtual 259, 3) := by decide +kernel
theorem dX12_fault_8 : decode bX12_fault.2.1 8 = .ok (.goto 18, 3) := by decide +kernel
theorem dX12_fault_11 : decode bX12_fault.2.1 11 = .ok (.iload_n 1, 1) := by decide +kernel
theorem dX12_fault_12 : decode bX12_fault.2.1 12 = .ok (.iconst 1, 1) := by decide +kernel
theorem dX12_fault_13 : decode bX12_fault.2.1 13 = .ok (.if_icmp .ne 11, 3) := by decide +kernel
theorem dX12_fault_16 : decode bX12_fault.2.1 16 = .ok (.aload_n 0, 1) := by decide +kernel
theorem dX12_fault_17 : decode bX12_fault.2.1 17 = .ok (.iconst 4, 1) := by decide +kernel
theorem dX12_fault_18 : decode bX12_fault.2.1 18 = .ok (.invokevirtual 262, 3) := by decide +kernel
theorem dX12_fault_21 : decode bX12_fault.2.1 21 = .ok (.goto 5, 3) := by decide +kernel
theorem dX12_fault_24 : decode bX12_fault.2.1 24 = .ok (.bipush (-2), 2) := by decide +kernel
theorem dX12_fault_26 : decode bX12_fault.2.1 26 = .ok (.ireturn, 1) := by decide +kernel
theorem dX12_takeBook_0 : decode bX12_takeBook.2.1 0 = .ok (.aload_n 0, 1) := by decide +kernel
theorem dX12_takeBook_1 : decode bX12_takeBook.2.1 1 = .ok (.aload_n 0, 1) := by decide +kernel
theorem dX12_takeBook_2 : decode bX12_takeBook.2.1 2 = .ok (.getfield 239, 3) := by decide +kernel
theorem dX12_takeBook_5 : decode bX12_takeBook.2.1 5 = .ok (.putfield 265, 3) := by decide +kernel
theorem dX12_takeBook_8 : decode bX12_takeBook.2.1 8 = .ok (.aload_n 0, 1) := by decide +kernel
theorem dX12_takeBook_9 : decode bX12_takeBook.2.1 9 = .ok (.iconst 0, 1) := by decide +kernel
theorem dX12_takeBook_10 : decode bX12_takeBook.2.1 10 = .ok (.putfield 268, 3) := by decide +kernel
theorem dX12_takeBook_13 : decode bX12_takeBook.2.1 13 = .ok (.iconst 0, 1) := by decide +kernel
theorem dX12_takeBook_14 : decode bX12_takeBook.2.1 14 = .ok (.istore_n 1, 1) := by decide +kernel
theorem dX12_takeBook_15 : decode bX12_takeBook.2.1 15 = .ok (.iload_n 1, 1) := by decide +kernel
theorem dX12_takeBook_16 : decode bX12_takeBook.2.1 16 = .ok (.aload_n 0, 1) := by decide +kernel
theorem dX12_takeBook_17 : decode bX12_takeBook.2.1 17 = .ok (.getfield 265, 3) := by decide +kernel
theorem dX12_takeBook_20 : decode bX12_takeBook.2.1 20 = .ok (.if_icmp .ge 95, 3) := by decide +kernel
theorem dX12_takeBook_23 : decode bX12_takeBook.2.1 23 = .ok (.aload_n 0, 1) := by decide +kernel
theorem dX12_takeBook_24 : decode bX12_takeBook.2.1 24 = .ok (.getfield 242, 3) := by decide +kernel
theorem dX12_takeBook_27 : decode bX12_takeBook.2.1 27 = .ok (.iload_n 1, 1) := by decide +kernel
theorem dX12_takeBook_28 : decode bX12_takeBook.2.1 28 = .ok (.invokestatic 271, 3) := by decide +kernel
theorem dX12_takeBook_31 : decode bX12_takeBook.2.1 31 = .ok (.ifCond .ne 78, 3) := by decide +kernel
theorem dX12_takeBook_34 : decode bX12_takeBook.2.1 34 = .ok (.aload_n 0, 1) := by decide +kernel
theorem dX12_takeBook_35 : decode bX12_takeBook.2.1 35 = .ok (.getfield 49, 3) := by decide +kernel
theorem dX12_takeBook_38 : decode bX12_takeBook.2.1 38 = .ok (.aload_n 0, 1) := by decide +kernel
theorem dX12_takeBook_39 : decode bX12_takeBook.2.1 39 = .ok (.getfield 268, 3) := by decide +kernel
theorem dX12_takeBook_42 : decode bX12_takeBook.2.1 42 = .ok (.aload_n 0, 1) := by decide +kernel
theorem dX12_takeBook_43 : decode bX12_takeBook.2.1 43 = .ok (.getfield 40, 3) := by decide +kernel
theorem dX12_takeBook_46 : decode bX12_takeBook.2.1 46 = .ok (.iload_n 1, 1) := by decide +kernel
theorem dX12_takeBook_47 : decode bX12_takeBook.2.1 47 = .ok (.iaload, 1) := by decide +kernel
theorem dX12_takeBook_48 : decode bX12_takeBook.2.1 48 = .ok (.iastore, 1) := by decide +kernel
theorem dX12_takeBook_49 : decode bX12_takeBook.2.1 49 = .ok (.aload_n 0, 1) := by decide +kernel
theorem dX12_takeBook_50 : decode bX12_takeBook.2.1 50 = .ok (.getfield 52, 3) := by decide +kernel
theorem dX12_takeBook_53 : decode bX12_takeBook.2.1 53 = .ok (.aload_n 0, 1) := by decide +kernel
theorem dX12_takeBook_54 : decode bX12_takeBook.2.1 54 = .ok (.getfield 268, 3) := by decide +kernel
theorem dX12_takeBook_57 : decode bX12_takeBook.2.1 57 = .ok (.aload_n 0, 1) := by decide +kernel
theorem dX12_takeBook_58 : decode bX12_takeBook.2.1 58 = .ok (.getfield 43, 3) := by decide +kernel
theorem dX12_takeBook_61 : decode bX12_takeBook.2.1 61 = .ok (.iload_n 1, 1) := by decide +kernel
theorem dX12_takeBook_62 : decode bX12_takeBook.2.1 62 = .ok (.iaload, 1) := by decide +kernel
theorem dX12_takeBook_63 : decode bX12_takeBook.2.1 63 = .ok (.iastore, 1) := by decide +kernel
theorem dX12_takeBook_64 : decode bX12_takeBook.2.1 64 = .ok (.aload_n 0, 1) := by decide +kernel
theorem dX12_takeBook_65 : decode bX12_takeBook.2.1 65 = .ok (.getfield 55, 3) := by decide +kernel
theorem dX12_takeBook_68 : decode bX12_takeBook.2.1 68 = .ok (.aload_n 0, 1) := by decide +kernel
theorem dX12_takeBook_69 : decode bX12_takeBook.2.1 69 = .ok (.getfield 268, 3) := by decide +kernel
theorem dX12_takeBook_72 : decode bX12_takeBook.2.1 72 = .ok (.aload_n 0, 1) := by decide +kernel
theorem dX12_takeBook_73 : decode bX12_takeBook.2.1 73 = .ok (.getfield 46, 3) := by decide +kernel
theorem dX12_takeBook_76 : decode bX12_takeBook.2.1 76 = .ok (.iload_n 1, 1) := by decide +kernel
theorem dX12_takeBook_77 : decode bX12_takeBook.2.1 77 = .ok (.iaload, 1) := by decide +kernel
theorem dX12_takeBook_78 : decode bX12_takeBook.2.1 78 = .ok (.iastore, 1) := by decide +kernel
theorem dX12_takeBook_79 : decode bX12_takeBook.2.1 79 = .ok (.aload_n 0, 1) := by decide +kernel
theorem dX12_takeBook_80 : decode bX12_takeBook.2.1 80 = .ok (.getfield 58, 3) := by decide +kernel
theorem dX12_takeBook_83 : decode bX12_takeBook.2.1 83 = .ok (.aload_n 0, 1) := by decide +kernel
theorem dX12_takeBook_84 : decode bX12_takeBook.2.1 84 = .ok (.getfield 268, 3) := by decide +kernel
theorem dX12_takeBook_87 : decode bX12_takeBook.2.1 87 = .ok (.iload_n 1, 1) := by decide +kernel
theorem dX12_takeBook_88 : decode bX12_takeBook.2.1 88 = .ok (.iastore, 1) := by decide +kernel
theorem dX12_takeBook_89 : decode bX12_takeBook.2.1 89 = .ok (.aload_n 0, 1) := by decide +kernel
theorem dX12_takeBook_90 : decode bX12_takeBook.2.1 90 = .ok (.getfield 71, 3) := by decide +kernel
theorem dX12_takeBook_93 : decode bX12_takeBook.2.1 93 = .ok (.aload_n 0, 1) := by decide +kernel
theorem dX12_takeBook_94 : decode bX12_takeBook.2.1 94 = .ok (.getfield 268, 3) := by decide +kernel
theorem dX12_takeBook_97 : decode bX12_takeBook.2.1 97 = .ok (.iconst 0, 1) := by decide +kernel
theorem dX12_takeBook_98 : decode bX12_takeBook.2.1 98 = .ok (.iastore, 1) := by decide +kernel
theorem dX12_takeBook_99 : decode bX12_takeBook.2.1 99 = .ok (.aload_n 0, 1) := by decide +kernel
theorem dX12_takeBook_100 : decode bX12_takeBook.2.1 100 = .ok (.dup, 1) := by decide +kernel
theorem dX12_takeBook_101 : decode bX12_takeBook.2.1 101 = .ok (.getfield 268, 3) := by decide +kernel
theorem dX12_takeBook_104 : decode bX12_takeBook.2.1 104 = .ok (.iconst 1, 1) := by decide +kernel
theorem dX12_takeBook_105 : decode bX12_takeBook.2.1 105 = .ok (.iadd, 1) := by decide +kernel
theorem dX12_takeBook_106 : decode bX12_takeBook.2.1 106 = .ok (.putfield 268, 3) := by decide +kernel
theorem dX12_takeBook_109 : decode bX12_takeBook.2.1 109 = .ok (.iinc 1 1, 3) := by decide +kernel
theorem dX12_takeBook_112 : decode bX12_takeBook.2.1 112 = .ok (.goto (-97), 3) := by decide +kernel
theorem dX12_takeBook_115 : decode bX12_takeBook.2.1 115 = .ok (.aload_n 0, 1) := by decide +kernel
theorem dX12_takeBook_116 : decode bX12_takeBook.2.1 116 = .ok (.iconst 0, 1) := by decide +kernel
theorem dX12_takeBook_117 : decode bX12_takeBook.2.1 117 = .ok (.putfield 275, 3) := by decide +kernel
theorem dX12_takeBook_120 : decode bX12_takeBook.2.1 120 = .ok (.aload_n 0, 1) := by decide +kernel
theorem dX12_takeBook_121 : decode bX12_takeBook.2.1 121 = .ok (.iconst 0, 1) := by decide +kernel
theorem dX12_takeBook_122 : decode bX12_takeBook.2.1 122 = .ok (.putfield 278, 3) := by decide +kernel
theorem dX12_takeBook_125 : decode bX12_takeBook.2.1 125 = .ok (.aload_n 0, 1) := by decide +kernel
theorem dX12_takeBook_126 : decode bX12_takeBook.2.1 126 = .ok (.iconst 0, 1) := by decide +kernel
theorem dX12_takeBook_127 : decode bX12_takeBook.2.1 127 = .ok (.putfield 281, 3) := by decide +kernel
theorem dX12_takeBook_130 : decode bX12_takeBook.2.1 130 = .ok (.aload_n 0, 1) := by decide +kernel
theorem dX12_takeBook_131 : decode bX12_takeBook.2.1 131 = .ok (.iconst 0, 1) := by decide +kernel
theorem dX12_takeBook_132 : decode bX12_takeBook.2.1 132 = .ok (.putfield 284, 3) := by decide +kernel
theorem dX12_takeBook_135 : decode bX12_takeBook.2.1 135 = .ok (.aload_n 0, 1) := by decide +kernel
theorem dX12_takeBook_136 : decode bX12_takeBook.2.1 136 = .ok (.iconst 0, 1) := by decide +kernel
theorem dX12_takeBook_137 : decode bX12_takeBook.2.1 137 = .ok (.putfield 288, 3) := by decide +kernel
theorem dX12_takeBook_140 : decode bX12_takeBook.2.1 140 = .ok (.aload_n 0, 1) := by decide +kernel
theorem dX12_takeBook_141 : decode bX12_takeBook.2.1 141 = .ok (.getfield 268, 3) := by decide +kernel
theorem dX12_takeBook_144 : decode bX12_takeBook.2.1 144 = .ok (.ireturn, 1) := by decide +kernel
theorem dX12_text_0 : decode bX12_text.2.1 0 = .ok (.iload_n 1, 1) := by decide +kernel
theorem dX12_text_1 : decode bX12_text.2.1 1 = .ok (.ifCond .ne 21, 3) := by decide +kernel
theorem dX12_text_4 : decode bX12_text.2.1 4 = .ok (.aload_n 0, 1) := by decide +kernel
theorem dX12_text_5 : decode bX12_text.2.1 5 = .ok (.invokevirtual 259, 3) := by decide +kernel
theorem dX12_text_8 : decode bX12_text.2.1 8 = .ok (.iconst (-1), 1) := by decide +kernel
theorem dX12_text_9 : decode bX12_text.2.1 9 = .ok (.if_icmp .ne 13, 3) := by decide +kernel
theorem dX12_text_12 : decode bX12_text.2.1 12 = .ok (.aload_n 0, 1) := by decide +kernel
theorem dX12_text_13 : decode bX12_text.2.1 13 = .ok (.iconst 0, 1) := by decide +kernel
theorem dX12_text_14 : decode bX12_text.2.1 14 = .ok (.putfield 121, 3) := by decide +kernel
theorem dX12_text_17 : decode bX12_text.2.1 17 = .ok (.aload_n 0, 1) := by decide +kernel
theorem dX12_text_18 : decode bX12_text.2.1 18 = .ok (.invokevirtual 291, 3) := by decide +kernel
theorem dX12_text_21 : decode bX12_text.2.1 21 = .ok (.ireturn, 1) := by decide +kernel
theorem dX12_text_22 : decode bX12_text.2.1 22 = .ok (.iload_n 1, 1) := by decide +kernel
theorem dX12_text_23 : decode bX12_text.2.1 23 = .ok (.iconst 1, 1) := by decide +kernel
theorem dX12_text_24 : decode bX12_text.2.1 24 = .ok (.if_icmp .ne 45, 3) := by decide +kernel
theorem dX12_text_27 : decode bX12_text.2.1 27 = .ok (.aload_n 0, 1) := by decide +kernel
theorem dX12_text_28 : decode bX12_text.2.1 28 = .ok (.getfield 294, 3) := by decide +kernel
theorem dX12_text_31 : decode bX12_text.2.1 31 = .ok (.iconst 4, 1) := by decide +kernel
theorem dX12_text_32 : decode bX12_text.2.1 32 = .ok (.if_icmp .ge 37, 3) := by decide +kernel
theorem dX12_text_35 : decode bX12_text.2.1 35 = .ok (.aload_n 0, 1) := by decide +kernel
theorem dX12_text_36 : decode bX12_text.2.1 36 = .ok (.aload_n 0, 1) := by decide +kernel
theorem dX12_text_37 : decode bX12_text.2.1 37 = .ok (.getfield 294, 3) := by decide +kernel
theorem dX12_text_40 : decode bX12_text.2.1 40 = .ok (.invokevirtual 262, 3) := by decide +kernel
theorem dX12_text_43 : decode bX12_text.2.1 43 = .ok (.iconst (-1), 1) := by decide +kernel
theorem dX12_text_44 : decode bX12_text.2.1 44 = .ok (.if_icmp .ne 25, 3) := by decide +kernel
theorem dX12_text_47 : decode bX12_text.2.1 47 = .ok (.aload_n 0, 1) := by decide +kernel
theorem dX12_text_48 : decode bX12_text.2.1 48 = .ok (.iconst 0, 1) := by decide +kernel
theorem dX12_text_49 : decode bX12_text.2.1 49 = .ok (.putfield 121, 3) := by decide +kernel
theorem dX12_text_52 : decode bX12_text.2.1 52 = .ok (.aload_n 0, 1) := by decide +kernel
theorem dX12_text_53 : decode bX12_text.2.1 53 = .ok (.dup, 1) := by decide +kernel
theorem dX12_text_54 : decode bX12_text.2.1 54 = .ok (.getfield 294, 3) := by decide +kernel
theorem dX12_text_57 : decode bX12_text.2.1 57 = .ok (.iconst 1, 1) := by decide +kernel
theorem dX12_text_58 : decode bX12_text.2.1 58 = .ok (.iadd, 1) := by decide +kernel
theorem dX12_text_59 : decode bX12_text.2.1 59 = .ok (.putfield 294, 3) := by decide +kernel
theorem dX12_text_62 : decode bX12_text.2.1 62 = .ok (.aload_n 0, 1) := by decide +kernel
theorem dX12_text_63 : decode bX12_text.2.1 63 = .ok (.getfield 294, 3) := by decide +kernel
theorem dX12_text_66 : decode bX12_text.2.1 66 = .ok (.iconst 1, 1) := by decide +kernel
theorem dX12_text_67 : decode bX12_text.2.1 67 = .ok (.isub, 1) := by decide +kernel
theorem dX12_text_68 : decode bX12_text.2.1 68 = .ok (.ireturn, 1) := by decide +kernel
theorem dX12_text_69 : decode bX12_text.2.1 69 = .ok (.iconst (-1), 1) := by decide +kernel
theorem dX12_text_70 : decode bX12_text.2.1 70 = .ok (.ireturn, 1) := by decide +kernel
theorem dX12_isSpeech_0 : decode bX12_isSpeech.2.1 0 = .ok (.iload_n 1, 1) := by decide +kernel
theorem dX12_isSpeech_1 : decode bX12_isSpeech.2.1 1 = .ok (.iconst 0, 1) := by decide +kernel
theorem dX12_isSpeech_2 : decode bX12_isSpeech.2.1 2 = .ok (.aload_n 0, 1) := by decide +kernel
theorem dX12_isSpeech_3 : decode bX12_isSpeech.2.1 3 = .ok (.getfield 268, 3) := by decide +kernel
theorem dX12_isSpeech_6 : decode bX12_isSpeech.2.1 6 = .ok (.iconst 1, 1) := by decide +kernel
theorem dX12_isSpeech_7 : decode bX12_isSpeech.2.1 7 = .ok (.isub, 1) := by decide +kernel
theorem dX12_isSpeech_8 : decode bX12_isSpeech.2.1 8 = .ok (.invokestatic 229, 3) := by decide +kernel
theorem dX12_isSpeech_11 : decode bX12_isSpeech.2.1 11 = .ok (.ireturn, 1) := by decide +kernel
theorem dX12_isActor_0 : decode bX12_isActor.2.1 0 = .ok (.iload_n 0, 1) := by decide +kernel
theorem dX12_isActor_1 : decode bX12_isActor.2.1 1 = .ok (.iconst 0, 1) := by decide +kernel
theorem dX12_isActor_2 : decode bX12_isActor.2.1 2 = .ok (.bipush 7, 2) := by decide +kernel
theorem dX12_isActor_4 : decode bX12_isActor.2.1 4 = .ok (.invokestatic 229, 3) := by decide +kernel
theorem dX12_isActor_7 : decode bX12_isActor.2.1 7 = .ok (.ireturn, 1) := by decide +kernel
theorem dX12_cue_0 : decode bX12_cue.2.1 0 = .ok (.iload_n 1, 1) := by decide +kernel
theorem dX12_cue_1 : decode bX12_cue.2.1 1 = .ok (.ifCond .ne 7, 3) := by decide +kernel
theorem dX12_cue_4 : decode bX12_cue.2.1 4 = .ok (.iconst (-1), 1) := by decide +kernel
theorem dX12_cue_5 : decode bX12_cue.2.1 5 = .ok (.goto 11, 3) := by decide +kernel
theorem dX12_cue_8 : decode bX12_cue.2.1 8 = .ok (.aload_n 0, 1) := by decide +kernel
theorem dX12_cue_9 : decode bX12_cue.2.1 9 = .ok (.getfield 52, 3) := by decide +kernel
theorem dX12_cue_12 : decode bX12_cue.2.1 12 = .ok (.iload_n 1, 1) := by decide +kernel
theorem dX12_cue_13 : decode bX12_cue.2.1 13 = .ok (.iconst 1, 1) := by decide +kernel
theorem dX12_cue_14 : decode bX12_cue.2.1 14 = .ok (.isub, 1) := by decide +kernel
theorem dX12_cue_15 : decode bX12_cue.2.1 15 = .ok (.iaload, 1) := by decide +kernel
theorem dX12_cue_16 : decode bX12_cue.2.1 16 = .ok (.ireturn, 1) := by decide +kernel
theorem dX12_gap_0 : decode bX12_gap.2.1 0 = .ok (.iload_n 1, 1) := by decide +kernel
theorem dX12_gap_1 : decode bX12_gap.2.1 1 = .ok (.iconst 1, 1) := by decide +kernel
theorem dX12_gap_2 : decode bX12_gap.2.1 2 = .ok (.isub, 1) := by decide +kernel
theorem dX12_gap_3 : decode bX12_gap.2.1 3 = .ok (.istore_n 2, 1) := by decide +kernel
theorem dX12_gap_4 : decode bX12_gap.2.1 4 = .ok (.iload_n 2, 1) := by decide +kernel
theorem dX12_gap_5 : decode bX12_gap.2.1 5 = .ok (.ifCond .lt 30, 3) := by decide +kernel
theorem dX12_gap_8 : decode bX12_gap.2.1 8 = .ok (.aload_n 0, 1) := by decide +kernel
theorem dX12_gap_9 : decode bX12_gap.2.1 9 = .ok (.getfield 49, 3) := by decide +kernel
theorem dX12_gap_12 : decode bX12_gap.2.1 12 = .ok (.iload_n 2, 1) := by decide +kernel
theorem dX12_gap_13 : decode bX12_gap.2.1 13 = .ok (.iaload, 1) := by decide +kernel
theorem dX12_gap_14 : decode bX12_gap.2.1 14 = .ok (.aload_n 0, 1) := by decide +kernel
theorem dX12_gap_15 : decode bX12_gap.2.1 15 = .ok (.getfield 49, 3) := by decide +kernel
theorem dX12_gap_18 : decode bX12_gap.2.1 18 = .ok (.iload_n 1, 1) := by decide +kernel
theorem dX12_gap_19 : decode bX12_gap.2.1 19 = .ok (.iaload, 1) := by decide +kernel
theorem dX12_gap_20 : decode bX12_gap.2.1 20 = .ok (.if_icmp .ne 9, 3) := by decide +kernel
theorem dX12_gap_23 : decode bX12_gap.2.1 23 = .ok (.iload_n 1, 1) := by decide +kernel
theorem dX12_gap_24 : decode bX12_gap.2.1 24 = .ok (.iload_n 2, 1) := by decide +kernel
theorem dX12_gap_25 : decode bX12_gap.2.1 25 = .ok (.isub, 1) := by decide +kernel
theorem dX12_gap_26 : decode bX12_gap.2.1 26 = .ok (.iconst 1, 1) := by decide +kernel
theorem dX12_gap_27 : decode bX12_gap.2.1 27 = .ok (.isub, 1) := by decide +kernel
theorem dX12_gap_28 : decode bX12_gap.2.1 28 = .ok (.ireturn, 1) := by decide +kernel
theorem dX12_gap_29 : decode bX12_gap.2.1 29 = .ok (.iinc 2 (-1), 3) := by decide +kernel
theorem dX12_gap_32 : decode bX12_gap.2.1 32 = .ok (.goto (-28), 3) := by decide +kernel
theorem dX12_gap_35 : decode bX12_gap.2.1 35 = .ok (.iload_n 1, 1) := by decide +kernel
theorem dX12_gap_36 : decode bX12_gap.2.1 36 = .ok (.ireturn, 1) := by decide +kernel
theorem dX12_areLike_0 : decode bX12_areLike.2.1 0 = .ok (.iload_n 1, 1) := by decide +kernel
theorem dX12_areLike_1 : decode bX12_areLike.2.1 1 = .ok (.iload_n 2, 1) := by decide +kernel
theorem dX12_areLike_2 : decode bX12_areLike.2.1 2 = .ok (.if_icmp .eq 43, 3) := by decide +kernel
theorem dX12_areLike_5 : decode bX12_areLike.2.1 5 = .ok (.iload_n 1, 1) := by decide +kernel
theorem dX12_areLike_6 : decode bX12_areLike.2.1 6 = .ok (.ifCond .le 39, 3) := by decide +kernel
theorem dX12_areLike_9 : decode bX12_areLike.2.1 9 = .ok (.iload_n 2, 1) := by decide +kernel
theorem dX12_areLike_10 : decode bX12_areLike.2.1 10 = .ok (.ifCond .le 35, 3) := by decide +kernel
theorem dX12_areLike_13 : decode bX12_areLike.2.1 13 = .ok (.aload_n 0, 1) := by decide +kernel
theorem dX12_areLike_14 : decode bX12_areLike.2.1 14 = .ok (.getfield 49, 3) := by decide +kernel
theorem dX12_areLike_17 : decode bX12_areLike.2.1 17 = .ok (.iload_n 1, 1) := by decide +kernel
theorem dX12_areLike_18 : decode bX12_areLike.2.1 18 = .ok (.iaload, 1) := by decide +kernel
theorem dX12_areLike_19 : decode bX12_areLike.2.1 19 = .ok (.aload_n 0, 1) := by decide +kernel
theorem dX12_areLike_20 : decode bX12_areLike.2.1 20 = .ok (.getfield 49, 3) := by decide +kernel
theorem dX12_areLike_23 : decode bX12_areLike.2.1 23 = .ok (.iload_n 2, 1) := by decide +kernel
theorem dX12_areLike_24 : decode bX12_areLike.2.1 24 = .ok (.iaload, 1) := by decide +kernel
theorem dX12_areLike_25 : decode bX12_areLike.2.1 25 = .ok (.if_icmp .ne 20, 3) := by decide +kernel
theorem dX12_areLike_28 : decode bX12_areLike.2.1 28 = .ok (.aload_n 0, 1) := by decide +kernel
theorem dX12_areLike_29 : decode bX12_areLike.2.1 29 = .ok (.iload_n 1, 1) := by decide +kernel
theorem dX12_areLike_30 : decode bX12_areLike.2.1 30 = .ok (.invokevirtual 297, 3) := by decide +kernel
theorem dX12_areLike_33 : decode bX12_areLike.2.1 33 = .ok (.aload_n 0, 1) := by decide +kernel
theorem dX12_areLike_34 : decode bX12_areLike.2.1 34 = .ok (.iload_n 2, 1) := by decide +kernel
theorem dX12_areLike_35 : decode bX12_areLike.2.1 35 = .ok (.invokevirtual 297, 3) := by decide +kernel
theorem dX12_areLike_38 : decode bX12_areLike.2.1 38 = .ok (.if_icmp .ne 7, 3) := by decide +kernel
theorem dX12_areLike_41 : decode bX12_areLike.2.1 41 = .ok (.iconst 1, 1) := by decide +kernel
theorem dX12_areLike_42 : decode bX12_areLike.2.1 42 = .ok (.goto 4, 3) := by decide +kernel
theorem dX12_areLike_45 : decode bX12_areLike.2.1 45 = .ok (.iconst 0, 1) := by decide +kernel
theorem dX12_areLike_46 : decode bX12_areLike.2.1 46 = .ok (.ireturn, 1) := by decide +kernel
theorem dX12_likes_0 : decode bX12_likes.2.1 0 = .ok (.iconst 0, 1) := by decide +kernel
theorem dX12_likes_1 : decode bX12_likes.2.1 1 = .ok (.istore_n 2, 1) := by decide +kernel
theorem dX12_likes_2 : decode bX12_likes.2.1 2 = .ok (.iconst 0, 1) := by decide +kernel
theorem dX12_likes_3 : decode bX12_likes.2.1 3 = .ok (.istore_n 3, 1) := by decide +kernel
theorem dX12_likes_4 : decode bX12_likes.2.1 4 = .ok (.iload_n 3, 1) := by decide +kernel
theorem dX12_likes_5 : decode bX12_likes.2.1 5 = .ok (.aload_n 0, 1) := by decide +kernel
theorem dX12_likes_6 : decode bX12_likes.2.1 6 = .ok (.getfield 268, 3) := by decide +kernel
theorem dX12_likes_9 : decode bX12_likes.2.1 9 = .ok (.if_icmp .ge 26, 3) := by decide +kernel
theorem dX12_likes_12 : decode bX12_likes.2.1 12 = .ok (.iload_n 2, 1) := by decide +kernel
theorem dX12_likes_13 : decode bX12_likes.2.1 13 = .ok (.aload_n 0, 1) := by decide +kernel
theorem dX12_likes_14 : decode bX12_likes.2.1 14 = .ok (.iload_n 1, 1) := by decide +kernel
theorem dX12_likes_15 : decode bX12_likes.2.1 15 = .ok (.iload_n 3, 1) := by decide +kernel
theorem dX12_likes_16 : decode bX12_likes.2.1 16 = .ok (.invokevirtual 300, 3) := by decide +kernel
theorem dX12_likes_19 : decode bX12_likes.2.1 19 = .ok (.ifCond .eq 7, 3) := by decide +kernel
theorem dX12_likes_22 : decode bX12_likes.2.1 22 = .ok (.iconst 1, 1) := by decide +kernel
theorem dX12_likes_23 : decode bX12_likes.2.1 23 = .ok (.goto 4, 3) := by decide +kernel
theorem dX12_likes_26 : decode bX12_likes.2.1 26 = .ok (.iconst 0, 1) := by decide +kernel
theorem dX12_likes_27 : decode bX12_likes.2.1 27 = .ok (.iadd, 1) := by decide +kernel
theorem dX12_likes_28 : decode bX12_likes.2.1 28 = .ok (.istore_n 2, 1) := by decide +kernel
theorem dX12_likes_29 : decode bX12_likes.2.1 29 = .ok (.iinc 3 1, 3) := by decide +kernel
theorem dX12_likes_32 : decode bX12_likes.2.1 32 = .ok (.goto (-28), 3) := by decide +kernel
theorem dX12_likes_35 : decode bX12_likes.2.1 35 = .ok (.iload_n 2, 1) := by decide +kernel
theorem dX12_likes_36 : decode bX12_likes.2.1 36 = .ok (.ireturn, 1) := by decide +kernel
theorem dX12_forgets_0 : decode bX12_forgets.2.1 0 = .ok (.aload_n 0, 1) := by decide +kernel
theorem dX12_forgets_1 : decode bX12_forgets.2.1 1 = .ok (.getfield 61, 3) := by decide +kernel
theorem dX12_forgets_4 : decode bX12_forgets.2.1 4 = .ok (.iconst (-1), 1) := by decide +kernel
theorem dX12_forgets_5 : decode bX12_forgets.2.1 5 = .ok (.if_icmp .ne 5, 3) := by decide +kernel
theorem dX12_forgets_8 : decode bX12_forgets.2.1 8 = .ok (.iconst 0, 1) := by decide +kernel
theorem dX12_forgets_9 : decode bX12_forgets.2.1 9 = .ok (.ireturn, 1) := by decide +kernel
theorem dX12_forgets_10 : decode bX12_forgets.2.1 10 = .ok (.aload_n 0, 1) := by decide +kernel
theorem dX12_forgets_11 : decode bX12_forgets.2.1 11 = .ok (.getfield 34, 3) := by decide +kernel
theorem dX12_forgets_14 : decode bX12_forgets.2.1 14 = .ok (.iconst 0, 1) := by decide +kernel
theorem dX12_forgets_15 : decode bX12_forgets.2.1 15 = .ok (.aload_n 0, 1) := by decide +kernel
theorem dX12_forgets_16 : decode bX12_forgets.2.1 16 = .ok (.getfield 49, 3) := by decide +kernel
theorem dX12_forgets_19 : decode bX12_forgets.2.1 19 = .ok (.iload_n 1, 1) := by decide +kernel
theorem dX12_forgets_20 : decode bX12_forgets.2.1 20 = .ok (.iaload, 1) := by decide +kernel
theorem dX12_forgets_21 : decode bX12_forgets.2.1 21 = .ok (.iastore, 1) := by decide +kernel
theorem dX12_forgets_22 : decode bX12_forgets.2.1 22 = .ok (.aload_n 0, 1) := by decide +kernel
theorem dX12_forgets_23 : decode bX12_forgets.2.1 23 = .ok (.getfield 34, 3) := by decide +kernel
theorem dX12_forgets_26 : decode bX12_forgets.2.1 26 = .ok (.iconst 1, 1) := by decide +kernel
theorem dX12_forgets_27 : decode bX12_forgets.2.1 27 = .ok (.iload_n 1, 1) := by decide +kernel
theorem dX12_forgets_28 : decode bX12_forgets.2.1 28 = .ok (.iastore, 1) := by decide +kernel
theorem dX12_forgets_29 : decode bX12_forgets.2.1 29 = .ok (.aload_n 0, 1) := by decide +kernel
theorem dX12_forgets_30 : decode bX12_forgets.2.1 30 = .ok (.getfield 34, 3) := by decide +kernel
theorem dX12_forgets_33 : decode bX12_forgets.2.1 33 = .ok (.iconst 2, 1) := by decide +kernel
theorem dX12_forgets_34 : decode bX12_forgets.2.1 34 = .ok (.aload_n 0, 1) := by decide +kernel
theorem dX12_forgets_35 : decode bX12_forgets.2.1 35 = .ok (.getfield 55, 3) := by decide +kernel
theorem dX12_forgets_38 : decode bX12_forgets.2.1 38 = .ok (.iload_n 1, 1) := by decide +kernel
theorem dX12_forgets_39 : decode bX12_forgets.2.1 39 = .ok (.iaload, 1) := by decide +kernel
theorem dX12_forgets_40 : decode bX12_forgets.2.1 40 = .ok (.iastore, 1) := by decide +kernel
theorem dX12_forgets_41 : decode bX12_forgets.2.1 41 = .ok (.aload_n 0, 1) := by decide +kernel
theorem dX12_forgets_42 : decode bX12_forgets.2.1 42 = .ok (.getfield 34, 3) := by decide +kernel
theorem dX12_forgets_45 : decode bX12_forgets.2.1 45 = .ok (.iconst 3, 1) := by decide +kernel
theorem dX12_forgets_46 : decode bX12_forgets.2.1 46 = .ok (.aload_n 0, 1) := by decide +kernel
theorem dX12_forgets_47 : decode bX12_forgets.2.1 47 = .ok (.iload_n 1, 1) := by decide +kernel
theorem dX12_forgets_48 : decode bX12_forgets.2.1 48 = .ok (.invokevirtual 303, 3) := by decide +kernel
theorem dX12_forgets_51 : decode bX12_forgets.2.1 51 = .ok (.iastore, 1) := by decide +kernel
theorem dX12_forgets_52 : decode bX12_forgets.2.1 52 = .ok (.aload_n 0, 1) := by decide +kernel
theorem dX12_forgets_53 : decode bX12_forgets.2.1 53 = .ok (.getfield 34, 3) := by decide +kernel
theorem dX12_forgets_56 : decode bX12_forgets.2.1 56 = .ok (.iconst 4, 1) := by decide +kernel
theorem dX12_forgets_57 : decode bX12_forgets.2.1 57 = .ok (.aload_n 0, 1) := by decide +kernel
theorem dX12_forgets_58 : decode bX12_forgets.2.1 58 = .ok (.iload_n 1, 1) := by decide +kernel
theorem dX12_forgets_59 : decode bX12_forgets.2.1 59 = .ok (.invokevirtual 306, 3) := by decide +kernel
theorem dX12_forgets_62 : decode bX12_forgets.2.1 62 = .ok (.iastore, 1) := by decide +kernel
theorem dX12_forgets_63 : decode bX12_forgets.2.1 63 = .ok (.aload_n 0, 1) := by decide +kernel
theorem dX12_forgets_64 : decode bX12_forgets.2.1 64 = .ok (.getfield 34, 3) := by decide +kernel
theorem dX12_forgets_67 : decode bX12_forgets.2.1 67 = .ok (.iconst 5, 1) := by decide +kernel
theorem dX12_forgets_68 : decode bX12_forgets.2.1 68 = .ok (.aload_n 0, 1) := by decide +kernel
theorem dX12_forgets_69 : decode bX12_forgets.2.1 69 = .ok (.getfield 275, 3) := by decide +kernel
theorem dX12_forgets_72 : decode bX12_forgets.2.1 72 = .ok (.iload_n 1, 1) := by decide +kernel
theorem dX12_forgets_73 : decode bX12_forgets.2.1 73 = .ok (.invokestatic 271, 3) := by decide +kernel
theorem dX12_forgets_76 : decode bX12_forgets.2.1 76 = .ok (.ifCond .eq 7, 3) := by decide +kernel
theorem dX12_forgets_79 : decode bX12_forgets.2.1 79 = .ok (.iconst 1, 1) := by decide +kernel
theorem dX12_forgets_80 : decode bX12_forgets.2.1 80 = .ok (.goto 4, 3) := by decide +kernel
theorem dX12_forgets_83 : decode bX12_forgets.2.1 83 = .ok (.iconst 0, 1) := by decide +kernel
theorem dX12_forgets_84 : decode bX12_forgets.2.1 84 = .ok (.iastore, 1) := by decide +kernel
theorem dX12_forgets_85 : decode bX12_forgets.2.1 85 = .ok (.iconst 0, 1) := by decide +kernel
theorem dX12_forgets_86 : decode bX12_forgets.2.1 86 = .ok (.bipush 100, 2) := by decide +kernel
theorem dX12_forgets_88 : decode bX12_forgets.2.1 88 = .ok (.aload_n 0, 1) := by decide +kernel
theorem dX12_forgets_89 : decode bX12_forgets.2.1 89 = .ok (.aload_n 0, 1) := by decide +kernel
theorem dX12_forgets_90 : decode bX12_forgets.2.1 90 = .ok (.getfield 61, 3) := by decide +kernel
theorem dX12_forgets_93 : decode bX12_forgets.2.1 93 = .ok (.invokevirtual 309, 3) := by decide +kernel
theorem dX12_forgets_96 : decode bX12_forgets.2.1 96 = .ok (.invokestatic 312, 3) := by decide +kernel
theorem dX12_forgets_99 : decode bX12_forgets.2.1 99 = .ok (.invokestatic 315, 3) := by decide +kernel
theorem dX12_forgets_102 : decode bX12_forgets.2.1 102 = .ok (.ireturn, 1) := by decide +kernel
theorem dX12_speech_0 : decode bX12_speech.2.1 0 = .ok (.aload_n 0, 1) := by decide +kernel
theorem dX12_speech_1 : decode bX12_speech.2.1 1 = .ok (.aload_n 0, 1) := by decide +kernel
theorem dX12_speech_2 : decode bX12_speech.2.1 2 = .ok (.iload_n 1, 1) := by decide +kernel
theorem dX12_speech_3 : decode bX12_speech.2.1 3 = .ok (.invokevirtual 317, 3) := by decide +kernel
theorem dX12_speech_6 : decode bX12_speech.2.1 6 = .ok (.ifCond .eq 17, 3) := by decide +kernel
theorem dX12_speech_9 : decode bX12_speech.2.1 9 = .ok (.iload_n 2, 1) := by decide +kernel
theorem dX12_speech_10 : decode bX12_speech.2.1 10 = .ok (.iconst 0, 1) := by decide +kernel
theorem dX12_speech_11 : decode bX12_speech.2.1 11 = .ok (.bipush 9, 2) := by decide +kernel
theorem dX12_speech_13 : decode bX12_speech.2.1 13 = .ok (.invokestatic 229, 3) := by decide +kernel
theorem dX12_speech_16 : decode bX12_speech.2.1 16 = .ok (.ifCond .eq 7, 3) := by decide +kernel
theorem dX12_speech_19 : decode bX12_speech.2.1 19 = .ok (.iconst 0, 1) := by decide +kernel
theorem dX12_speech_20 : decode bX12_speech.2.1 20 = .ok (.goto 4, 3) := by decide +kernel
theorem dX12_speech_23 : decode bX12_speech.2.1 23 = .ok (.iconst 1, 1) := by decide +kernel
theorem dX12_speech_24 : decode bX12_speech.2.1 24 = .ok (.putfield 114, 3) := by decide +kernel
theorem dX12_speech_27 : decode bX12_speech.2.1 27 = .ok (.aload_n 0, 1) := by decide +kernel
theorem dX12_speech_28 : decode bX12_speech.2.1 28 = .ok (.getfield 114, 3) := by decide +kernel
theorem dX12_speech_31 : decode bX12_speech.2.1 31 = .ok (.iconst 1, 1) := by decide +kernel
theorem dX12_speech_32 : decode bX12_speech.2.1 32 = .ok (.if_icmp .ne 5, 3) := by decide +kernel
theorem dX12_speech_35 : decode bX12_speech.2.1 35 = .ok (.iconst 0, 1) := by decide +kernel
theorem dX12_speech_36 : decode bX12_speech.2.1 36 = .ok (.ireturn, 1) := by decide +kernel
theorem dX12_speech_37 : decode bX12_speech.2.1 37 = .ok (.iload_n 2, 1) := by decide +kernel
theorem dX12_speech_38 : decode bX12_speech.2.1 38 = .ok (.tableswitch 119 0 8 #[50, 57, 64, 71, 77, 83, 89, 106, 112], 50) := by decide +kernel
theorem dX12_speech_88 : decode bX12_speech.2.1 88 = .ok (.aload_n 0, 1) := by decide +kernel
theorem dX12_speech_89 : decode bX12_speech.2.1 89 = .ok (.getfield 49, 3) := by decide +kernel
theorem dX12_speech_92 : decode bX12_speech.2.1 92 = .ok (.iload_n 1, 1) := by decide +kernel
theorem dX12_speech_93 : decode bX12_speech.2.1 93 = .ok (.iaload, 1) := by decide +kernel
theorem dX12_speech_94 : decode bX12_speech.2.1 94 = .ok (.ireturn, 1) := by decide +kernel
theorem dX12_speech_95 : decode bX12_speech.2.1 95 = .ok (.aload_n 0, 1) := by decide +kernel
theorem dX12_speech_96 : decode bX12_speech.2.1 96 = .ok (.getfield 52, 3) := by decide +kernel
theorem dX12_speech_99 : decode bX12_speech.2.1 99 = .ok (.iload_n 1, 1) := by decide +kernel
theorem dX12_speech_100 : decode bX12_speech.2.1 100 = .ok (.iaload, 1) := by decide +kernel
theorem dX12_speech_101 : decode bX12_speech.2.1 101 = .ok (.ireturn, 1) := by decide +kernel
theorem dX12_speech_102 : decode bX12_speech.2.1 102 = .ok (.aload_n 0, 1) := by decide +kernel
theorem dX12_speech_103 : decode bX12_speech.2.1 103 = .ok (.getfield 55, 3) := by decide +kernel
theorem dX12_speech_106 : decode bX12_speech.2.1 106 = .ok (.iload_n 1, 1) := by decide +kernel
theorem dX12_speech_107 : decode bX12_speech.2.1 107 = .ok (.iaload, 1) := by decide +kernel
theorem dX12_speech_108 : decode bX12_speech.2.1 108 = .ok (.ireturn, 1) := by decide +kernel
theorem dX12_speech_109 : decode bX12_speech.2.1 109 = .ok (.aload_n 0, 1) := by decide +kernel
theorem dX12_speech_110 : decode bX12_speech.2.1 110 = .ok (.iload_n 1, 1) := by decide +kernel
theorem dX12_speech_111 : decode bX12_speech.2.1 111 = .ok (.invokevirtual 297, 3) := by decide +kernel
theorem dX12_speech_114 : decode bX12_speech.2.1 114 = .ok (.ireturn, 1) := by decide +kernel
theorem dX12_speech_115 : decode bX12_speech.2.1 115 = .ok (.aload_n 0, 1) := by decide +kernel
theorem dX12_speech_116 : decode bX12_speech.2.1 116 = .ok (.iload_n 1, 1) := by decide +kernel
theorem dX12_speech_117 : decode bX12_speech.2.1 117 = .ok (.invokevirtual 303, 3) := by decide +kernel
theorem dX12_speech_120 : decode bX12_speech.2.1 120 = .ok (.ireturn, 1) := by decide +kernel
theorem dX12_speech_121 : decode bX12_speech.2.1 121 = .ok (.aload_n 0, 1) := by decide +kernel
theorem dX12_speech_122 : decode bX12_speech.2.1 122 = .ok (.iload_n 1, 1) := by decide +kernel
theorem dX12_speech_123 : decode bX12_speech.2.1 123 = .ok (.invokevirtual 306, 3) := by decide +kernel
theorem dX12_speech_126 : decode bX12_speech.2.1 126 = .ok (.ireturn, 1) := by decide +kernel
theorem dX12_speech_127 : decode bX12_speech.2.1 127 = .ok (.aload_n 0, 1) := by decide +kernel
theorem dX12_speech_128 : decode bX12_speech.2.1 128 = .ok (.getfield 275, 3) := by decide +kernel
theorem dX12_speech_131 : decode bX12_speech.2.1 131 = .ok (.iload_n 1, 1) := by decide +kernel
theorem dX12_speech_132 : decode bX12_speech.2.1 132 = .ok (.invokestatic 271, 3) := by decide +kernel
theorem dX12_speech_135 : decode bX12_speech.2.1 135 = .ok (.ifCond .eq 7, 3) := by decide +kernel
theorem dX12_speech_138 : decode bX12_speech.2.1 138 = .ok (.iconst 1, 1) := by decide +kernel
theorem dX12_speech_139 : decode bX12_speech.2.1 139 = .ok (.goto 4, 3) := by decide +kernel
theorem dX12_speech_142 : decode bX12_speech.2.1 142 = .ok (.iconst 0, 1) := by decide +kernel
theorem dX12_speech_143 : decode bX12_speech.2.1 143 = .ok (.ireturn, 1) := by decide +kernel
theorem dX12_speech_144 : decode bX12_speech.2.1 144 = .ok (.aload_n 0, 1) := by decide +kernel
theorem dX12_speech_145 : decode bX12_speech.2.1 145 = .ok (.iload_n 1, 1) := by decide +kernel
theorem dX12_speech_146 : decode bX12_speech.2.1 146 = .ok (.invokevirtual 320, 3) := by decide +kernel
theorem dX12_speech_149 : decode bX12_speech.2.1 149 = .ok (.ireturn, 1) := by decide +kernel
theorem dX12_speech_150 : decode bX12_speech.2.1 150 = .ok (.aload_n 0, 1) := by decide +kernel
theorem dX12_speech_151 : decode bX12_speech.2.1 151 = .ok (.getfield 58, 3) := by decide +kernel
theorem dX12_speech_154 : decode bX12_speech.2.1 154 = .ok (.iload_n 1, 1) := by decide +kernel
theorem dX12_speech_155 : decode bX12_speech.2.1 155 = .ok (.iaload, 1) := by decide +kernel
theorem dX12_speech_156 : decode bX12_speech.2.1 156 = .ok (.ireturn, 1) := by decide +kernel
theorem dX12_speech_157 : decode bX12_speech.2.1 157 = .ok (.aload_n 0, 1) := by decide +kernel
theorem dX12_speech_158 : decode bX12_speech.2.1 158 = .ok (.getfield 71, 3) := by decide +kernel
theorem dX12_speech_161 : decode bX12_speech.2.1 161 = .ok (.iload_n 1, 1) := by decide +kernel
theorem dX12_speech_162 : decode bX12_speech.2.1 162 = .ok (.iaload, 1) := by decide +kernel
theorem dX12_speech_163 : decode bX12_speech.2.1 163 = .ok (.ireturn, 1) := by decide +kernel
theorem dX12_law_0 : decode bX12_law.2.1 0 = .ok (.iload_n 1, 1) := by decide +kernel
theorem dX12_law_1 : decode bX12_law.2.1 1 = .ok (.iconst (-1), 1) := by decide +kernel
theorem dX12_law_2 : decode bX12_law.2.1 2 = .ok (.aload_n 0, 1) := by decide +kernel
theorem dX12_law_3 : decode bX12_law.2.1 3 = .ok (.getfield 294, 3) := by decide +kernel
theorem dX12_law_6 : decode bX12_law.2.1 6 = .ok (.iconst 1, 1) := by decide +kernel
theorem dX12_law_7 : decode bX12_law.2.1 7 = .ok (.isub, 1) := by decide +kernel
theorem dX12_law_8 : decode bX12_law.2.1 8 = .ok (.invokestatic 229, 3) := by decide +kernel
theorem dX12_law_11 : decode bX12_law.2.1 11 = .ok (.ifCond .ne 5, 3) := by decide +kernel
theorem dX12_law_14 : decode bX12_law.2.1 14 = .ok (.iconst 0, 1) := by decide +kernel
theorem dX12_law_15 : decode bX12_law.2.1 15 = .ok (.ireturn, 1) := by decide +kernel
theorem dX12_law_16 : decode bX12_law.2.1 16 = .ok (.aload_n 0, 1) := by decide +kernel
theorem dX12_law_17 : decode bX12_law.2.1 17 = .ok (.iload_n 1, 1) := by decide +kernel
theorem dX12_law_18 : decode bX12_law.2.1 18 = .ok (.putfield 61, 3) := by decide +kernel
theorem dX12_law_21 : decode bX12_law.2.1 21 = .ok (.iconst 1, 1) := by decide +kernel
theorem dX12_law_22 : decode bX12_law.2.1 22 = .ok (.ireturn, 1) := by decide +kernel
theorem dX12_set_0 : decode bX12_set.2.1 0 = .ok (.iload_n 1, 1) := by decide +kernel
theorem dX12_set_1 : decode bX12_set.2.1 1 = .ok (.invokestatic 323, 3) := by decide +kernel
theorem dX12_set_4 : decode bX12_set.2.1 4 = .ok (.ifCond .eq 30, 3) := by decide +kernel
theorem dX12_set_7 : decode bX12_set.2.1 7 = .ok (.iload_n 2, 1) := by decide +kernel
theorem dX12_set_8 : decode bX12_set.2.1 8 = .ok (.iconst 0, 1) := by decide +kernel
theorem dX12_set_9 : decode bX12_set.2.1 9 = .ok (.iconst 1, 1) := by decide +kernel
theorem dX12_set_10 : decode bX12_set.2.1 10 = .ok (.invokestatic 229, 3) := by decide +kernel
theorem dX12_set_13 : decode bX12_set.2.1 13 = .ok (.ifCond .eq 21, 3) := by decide +kernel
theorem dX12_set_16 : decode bX12_set.2.1 16 = .ok (.iload_n 3, 1) := by decide +kernel
theorem dX12_set_17 : decode bX12_set.2.1 17 = .ok (.iconst 0, 1) := by decide +kernel
theorem dX12_set_18 : decode bX12_set.2.1 18 = .ok (.iload_n 2, 1) := by decide +kernel
theorem dX12_set_19 : decode bX12_set.2.1 19 = .ok (.ifCond .ne 7, 3) := by decide +kernel
theorem dX12_set_22 : decode bX12_set.2.1 22 = .ok (.iconst 3, 1) := by decide +kernel
theorem dX12_set_23 : decode bX12_set.2.1 23 = .ok (.goto 5, 3) := by decide +kernel
theorem dX12_set_26 : decode bX12_set.2.1 26 = .ok (.bipush 100, 2) := by decide +kernel
theorem dX12_set_28 : decode bX12_set.2.1 28 = .ok (.invokestatic 229, 3) := by decide +kernel
theorem dX12_set_31 : decode bX12_set.2.1 31 = .ok (.ifCond .ne 5, 3) := by decide +kernel
theorem dX12_set_34 : decode bX12_set.2.1 34 = .ok (.iconst 0, 1) := by decide +kernel
theorem dX12_set_35 : decode bX12_set.2.1 35 = .ok (.ireturn, 1) := by decide +kernel
theorem dX12_set_36 : decode bX12_set.2.1 36 = .ok (.aload_n 0, 1) := by decide +kernel
theorem dX12_set_37 : decode bX12_set.2.1 37 = .ok (.getfield 65, 3) := by decide +kernel
theorem dX12_set_40 : decode bX12_set.2.1 40 = .ok (.iload_n 1, 1) := by decide +kernel
theorem dX12_set_41 : decode bX12_set.2.1 41 = .ok (.iload_n 2, 1) := by decide +kernel
theorem dX12_set_42 : decode bX12_set.2.1 42 = .ok (.ifCond .ne 7, 3) := by decide +kernel
theorem dX12_set_45 : decode bX12_set.2.1 45 = .ok (.iload_n 3, 1) := by decide +kernel
theorem dX12_set_46 : decode bX12_set.2.1 46 = .ok (.goto 9, 3) := by decide +kernel
theorem dX12_set_49 : decode bX12_set.2.1 49 = .ok (.aload_n 0, 1) := by decide +kernel
theorem dX12_set_50 : decode bX12_set.2.1 50 = .ok (.getfield 65, 3) := by decide +kernel
theorem dX12_set_53 : decode bX12_set.2.1 53 = .ok (.iload_n 1, 1) := by decide +kernel
theorem dX12_set_54 : decode bX12_set.2.1 54 = .ok (.iaload, 1) := by decide +kernel
theorem dX12_set_55 : decode bX12_set.2.1 55 = .ok (.iastore, 1) := by decide +kernel
theorem dX12_set_56 : decode bX12_set.2.1 56 = .ok (.aload_n 0, 1) := by decide +kernel
theorem dX12_set_57 : decode bX12_set.2.1 57 = .ok (.getfield 68, 3) := by decide +kernel
theorem dX12_set_60 : decode bX12_set.2.1 60 = .ok (.iload_n 1, 1) := by decide +kernel
theorem dX12_set_61 : decode bX12_set.2.1 61 = .ok (.iload_n 2, 1) := by decide +kernel
theorem dX12_set_62 : decode bX12_set.2.1 62 = .ok (.iconst 1, 1) := by decide +kernel
theorem dX12_set_63 : decode bX12_set.2.1 63 = .ok (.if_icmp .ne 7, 3) := by decide +kernel
theorem dX12_set_66 : decode bX12_set.2.1 66 = .ok (.iload_n 3, 1) := by decide +kernel
theorem dX12_set_67 : decode bX12_set.2.1 67 = .ok (.goto 9, 3) := by decide +kernel
theorem dX12_set_70 : decode bX12_set.2.1 70 = .ok (.aload_n 0, 1) := by decide +kernel
theorem dX12_set_71 : decode bX12_set.2.1 71 = .ok (.getfield 68, 3) := by decide +kernel
theorem dX12_set_74 : decode bX12_set.2.1 74 = .ok (.iload_n 1, 1) := by decide +kernel
theorem dX12_set_75 : decode bX12_set.2.1 75 = .ok (.iaload, 1) := by decide +kernel
theorem dX12_set_76 : decode bX12_set.2.1 76 = .ok (.iastore, 1) := by decide +kernel
theorem dX12_set_77 : decode bX12_set.2.1 77 = .ok (.iconst 1, 1) := by decide +kernel
theorem dX12_set_78 : decode bX12_set.2.1 78 = .ok (.ireturn, 1) := by decide +kernel
theorem dX12_mark_0 : decode bX12_mark.2.1 0 = .ok (.aload_n 0, 1) := by decide +kernel
theorem dX12_mark_1 : decode bX12_mark.2.1 1 = .ok (.iload_n 1, 1) := by decide +kernel
theorem dX12_mark_2 : decode bX12_mark.2.1 2 = .ok (.invokevirtual 317, 3) := by decide +kernel
theorem dX12_mark_5 : decode bX12_mark.2.1 5 = .ok (.ifCond .eq 15, 3) := by decide +kernel
theorem dX12_mark_8 : decode bX12_mark.2.1 8 = .ok (.aload_n 0, 1) := by decide +kernel
theorem dX12_mark_9 : decode bX12_mark.2.1 9 = .ok (.getfield 275, 3) := by decide +kernel
theorem dX12_mark_12 : decode bX12_mark.2.1 12 = .ok (.iload_n 1, 1) := by decide +kernel
theorem dX12_mark_13 : decode bX12_mark.2.1 13 = .ok (.invokestatic 271, 3) := by decide +kernel
theorem dX12_mark_16 : decode bX12_mark.2.1 16 = .ok (.iload_n 2, 1) := by decide +kernel
theorem dX12_mark_17 : decode bX12_mark.2.1 17 = .ok (.if_icmp .ne 5, 3) := by decide +kernel
theorem dX12_mark_20 : decode bX12_mark.2.1 20 = .ok (.iconst 0, 1) := by decide +kernel
theorem dX12_mark_21 : decode bX12_mark.2.1 21 = .ok (.ireturn, 1) := by decide +kernel
theorem dX12_mark_22 : decode bX12_mark.2.1 22 = .ok (.aload_n 0, 1) := by decide +kernel
theorem dX12_mark_23 : decode bX12_mark.2.1 23 = .ok (.dup, 1) := by decide +kernel
theorem dX12_mark_24 : decode bX12_mark.2.1 24 = .ok (.getfield 275, 3) := by decide +kernel
theorem dX12_mark_27 : decode bX12_mark.2.1 27 = .ok (.iconst 1, 1) := by decide +kernel
theorem dX12_mark_28 : decode bX12_mark.2.1 28 = .ok (.iload_n 1, 1) := by decide +kernel
theorem dX12_mark_29 : decode bX12_mark.2.1 29 = .ok (.ishl, 1) := by decide +kernel
theorem dX12_mark_30 : decode bX12_mark.2.1 30 = .ok (.ixor, 1) := by decide +kernel
theorem dX12_mark_31 : decode bX12_mark.2.1 31 = .ok (.putfield 275, 3) := by decide +kernel
theorem dX12_mark_34 : decode bX12_mark.2.1 34 = .ok (.iconst 1, 1) := by decide +kernel
theorem dX12_mark_35 : decode bX12_mark.2.1 35 = .ok (.ireturn, 1) := by decide +kernel
theorem dX12_leapOf_0 : decode bX12_leapOf.2.1 0 = .ok (.iconst (-1), 1) := by decide +kernel
theorem dX12_leapOf_1 : decode bX12_leapOf.2.1 1 = .ok (.istore_n 2, 1) := by decide +kernel
theorem dX12_leapOf_2 : decode bX12_leapOf.2.1 2 = .ok (.iconst (-1), 1) := by decide +kernel
theorem dX12_leapOf_3 : decode bX12_leapOf.2.1 3 = .ok (.istore_n 3, 1) := by decide +kernel
theorem dX12_leapOf_4 : decode bX12_leapOf.2.1 4 = .ok (.aload_n 0, 1) := by decide +kernel
theorem dX12_leapOf_5 : decode bX12_leapOf.2.1 5 = .ok (.getfield 268, 3) := by decide +kernel
theorem dX12_leapOf_8 : decode bX12_leapOf.2.1 8 = .ok (.iconst 1, 1) := by decide +kernel
theorem dX12_leapOf_9 : decode bX12_leapOf.2.1 9 = .ok (.isub, 1) := by decide +kernel
theorem dX12_leapOf_10 : decode bX12_leapOf.2.1 10 = .ok (.istore 4, 2) := by decide +kernel
theorem dX12_leapOf_12 : decode bX12_leapOf.2.1 12 = .ok (.iload 4, 2) := by decide +kernel
theorem dX12_leapOf_14 : decode bX12_leapOf.2.1 14 = .ok (.ifCond .lt 60, 3) := by decide +kernel
theorem dX12_leapOf_17 : decode bX12_leapOf.2.1 17 = .ok (.iload 4, 2) := by decide +kernel
theorem dX12_leapOf_19 : decode bX12_leapOf.2.1 19 = .ok (.iload_n 1, 1) := by decide +kernel
theorem dX12_leapOf_20 : decode bX12_leapOf.2.1 20 = .ok (.if_icmp .le 18, 3) := by decide +kernel
theorem dX12_leapOf_23 : decode bX12_leapOf.2.1 23 = .ok (.aload_n 0, 1) := by decide +kernel
theorem dX12_leapOf_24 : decode bX12_leapOf.2.1 24 = .ok (.iload_n 1, 1) := by decide +kernel
theorem dX12_leapOf_25 : decode bX12_leapOf.2.1 25 = .ok (.iload 4, 2) := by decide +kernel
theorem dX12_leapOf_27 : decode bX12_leapOf.2.1 27 = .ok (.invokevirtual 300, 3) := by decide +kernel
theorem dX12_leapOf_30 : decode bX12_leapOf.2.1 30 = .ok (.ifCond .eq 8, 3) := by decide +kernel
theorem dX12_leapOf_33 : decode bX12_leapOf.2.1 33 = .ok (.iload 4, 2) := by decide +kernel
theorem dX12_leapOf_35 : decode bX12_leapOf.2.1 35 = .ok (.goto 4, 3) := by decide +kernel
theorem dX12_leapOf_38 : decode bX12_leapOf.2.1 38 = .ok (.iload_n 2, 1) := by decide +kernel
theorem dX12_leapOf_39 : decode bX12_leapOf.2.1 39 = .ok (.istore_n 2, 1) := by decide +kernel
theorem dX12_leapOf_40 : decode bX12_leapOf.2.1 40 = .ok (.iload 4, 2) := by decide +kernel
theorem dX12_leapOf_42 : decode bX12_leapOf.2.1 42 = .ok (.iload_n 1, 1) := by decide +kernel
theorem dX12_leapOf_43 : decode bX12_leapOf.2.1 43 = .ok (.if_icmp .ge 23, 3) := by decide +kernel
theorem dX12_leapOf_46 : decode bX12_leapOf.2.1 46 = .ok (.iload_n 3, 1) := by decide +kernel
theorem dX12_leapOf_47 : decode bX12_leapOf.2.1 47 = .ok (.iconst (-1), 1) := by decide +kernel
theorem dX12_leapOf_48 : decode bX12_leapOf.2.1 48 = .ok (.if_icmp .ne 18, 3) := by decide +kernel
theorem dX12_leapOf_51 : decode bX12_leapOf.2.1 51 = .ok (.aload_n 0, 1) := by decide +kernel
theorem dX12_leapOf_52 : decode bX12_leapOf.2.1 52 = .ok (.iload_n 1, 1) := by decide +kernel
theorem dX12_leapOf_53 : decode bX12_leapOf.2.1 53 = .ok (.iload 4, 2) := by decide +kernel
theorem dX12_leapOf_55 : decode bX12_leapOf.2.1 55 = .ok (.invokevirtual 300, 3) := by decide +kernel
theorem dX12_leapOf_58 : decode bX12_leapOf.2.1 58 = .ok (.ifCond .eq 8, 3) := by decide +kernel
theorem dX12_leapOf_61 : decode bX12_leapOf.2.1 61 = .ok (.iload 4, 2) := by decide +kernel
theorem dX12_leapOf_63 : decode bX12_leapOf.2.1 63 = .ok (.goto 4, 3) := by decide +kernel
theorem dX12_leapOf_66 : decode bX12_leapOf.2.1 66 = .ok (.iload_n 3, 1) := by decide +kernel
theorem dX12_leapOf_67 : decode bX12_leapOf.2.1 67 = .ok (.istore_n 3, 1) := by decide +kernel
theorem dX12_leapOf_68 : decode bX12_leapOf.2.1 68 = .ok (.iinc 4 (-1), 3) := by decide +kernel
theorem dX12_leapOf_71 : decode bX12_leapOf.2.1 71 = .ok (.goto (-59), 3) := by decide +kernel
theorem dX12_leapOf_74 : decode bX12_leapOf.2.1 74 = .ok (.aload_n 0, 1) := by decide +kernel
theorem dX12_leapOf_75 : decode bX12_leapOf.2.1 75 = .ok (.getfield 65, 3) := by decide +kernel
theorem dX12_leapOf_78 : decode bX12_leapOf.2.1 78 = .ok (.aload_n 0, 1) := by decide +kernel
theorem dX12_leapOf_79 : decode bX12_leapOf.2.1 79 = .ok (.getfield 49, 3) := by decide +kernel
theorem dX12_leapOf_82 : decode bX12_leapOf.2.1 82 = .ok (.iload_n 1, 1) := by decide +kernel
theorem dX12_leapOf_83 : decode bX12_leapOf.2.1 83 = .ok (.iaload, 1) := by decide +kernel
theorem dX12_leapOf_84 : decode bX12_leapOf.2.1 84 = .ok (.iaload, 1) := by decide +kernel
theorem dX12_leapOf_85 : decode bX12_leapOf.2.1 85 = .ok (.tableswitch 33 0 2 #[27, 29, 31], 27) := by decide +kernel
theorem dX12_leapOf_112 : decode bX12_leapOf.2.1 112 = .ok (.iconst (-1), 1) := by decide +kernel
theorem dX12_leapOf_113 : decode bX12_leapOf.2.1 113 = .ok (.ireturn, 1) := by decide +kernel
theorem dX12_leapOf_114 : decode bX12_leapOf.2.1 114 = .ok (.iload_n 2, 1) := by decide +kernel
theorem dX12_leapOf_115 : decode bX12_leapOf.2.1 115 = .ok (.ireturn, 1) := by decide +kernel
theorem dX12_leapOf_116 : decode bX12_leapOf.2.1 116 = .ok (.iload_n 3, 1) := by decide +kernel
theorem dX12_leapOf_117 : decode bX12_leapOf.2.1 117 = .ok (.ireturn, 1) := by decide +kernel
theorem dX12_leapOf_118 : decode bX12_leapOf.2.1 118 = .ok (.iload_n 3, 1) := by decide +kernel
theorem dX12_leapOf_119 : decode bX12_leapOf.2.1 119 = .ok (.iconst (-1), 1) := by decide +kernel
theorem dX12_leapOf_120 : decode bX12_leapOf.2.1 120 = .ok (.if_icmp .ne 7, 3) := by decide +kernel
theorem dX12_leapOf_123 : decode bX12_leapOf.2.1 123 = .ok (.iload_n 2, 1) := by decide +kernel
theorem dX12_leapOf_124 : decode bX12_leapOf.2.1 124 = .ok (.goto 22, 3) := by decide +kernel
theorem dX12_leapOf_127 : decode bX12_leapOf.2.1 127 = .ok (.iload_n 2, 1) := by decide +kernel
theorem dX12_leapOf_128 : decode bX12_leapOf.2.1 128 = .ok (.iconst (-1), 1) := by decide +kernel
theorem dX12_leapOf_129 : decode bX12_leapOf.2.1 129 = .ok (.if_icmp .eq 12, 3) := by decide +kernel
theorem dX12_leapOf_132 : decode bX12_leapOf.2.1 132 = .ok (.iload_n 1, 1) := by decide +kernel
theorem dX12_leapOf_133 : decode bX12_leapOf.2.1 133 = .ok (.iload_n 3, 1) := by decide +kernel
theorem dX12_leapOf_134 : decode bX12_leapOf.2.1 134 = .ok (.isub, 1) := by decide +kernel
theorem dX12_leapOf_135 : decode bX12_leapOf.2.1 135 = .ok (.iload_n 2, 1) := by decide +kernel
theorem dX12_leapOf_136 : decode bX12_leapOf.2.1 136 = .ok (.iload_n 1, 1) := by decide +kernel
theorem dX12_leapOf_137 : decode bX12_leapOf.2.1 137 = .ok (.isub, 1) := by decide +kernel
theorem dX12_leapOf_138 : decode bX12_leapOf.2.1 138 = .ok (.if_icmp .gt 7, 3) := by decide +kernel
theorem dX12_leapOf_141 : decode bX12_leapOf.2.1 141 = .ok (.iload_n 3, 1) := by decide +kernel
theorem dX12_leapOf_142 : decode bX12_leapOf.2.1 142 = .ok (.goto 4, 3) := by decide +kernel
theorem dX12_leapOf_145 : decode bX12_leapOf.2.1 145 = .ok (.iload_n 2, 1) := by decide +kernel
theorem dX12_leapOf_146 : decode bX12_leapOf.2.1 146 = .ok (.ireturn, 1) := by decide +kernel
theorem dX12_leap_0 : decode bX12_leap.2.1 0 = .ok (.aload_n 0, 1) := by decide +kernel
theorem dX12_leap_1 : decode bX12_leap.2.1 1 = .ok (.iload_n 1, 1) := by decide +kernel
theorem dX12_leap_2 : decode bX12_leap.2.1 2 = .ok (.invokevirtual 317, 3) := by decide +kernel
theorem dX12_leap_5 : decode bX12_leap.2.1 5 = .ok (.ifCond .eq 11, 3) := by decide +kernel
theorem dX12_leap_8 : decode bX12_leap.2.1 8 = .ok (.aload_n 0, 1) := by decide +kernel
theorem dX12_leap_9 : decode bX12_leap.2.1 9 = .ok (.iload_n 1, 1) := by decide +kernel
theorem dX12_leap_10 : decode bX12_leap.2.1 10 = .ok (.invokevirtual 326, 3) := by decide +kernel
theorem dX12_leap_13 : decode bX12_leap.2.1 13 = .ok (.goto 6, 3) := by decide +kernel
theorem dX12_leap_16 : decode bX12_leap.2.1 16 = .ok (.ldc_w 329, 3) := by decide +kernel
theorem dX12_leap_19 : decode bX12_leap.2.1 19 = .ok (.ireturn, 1) := by decide +kernel
theorem dX12_say_0 : decode bX12_say.2.1 0 = .ok (.aload_n 0, 1) := by decide +kernel
theorem dX12_say_1 : decode bX12_say.2.1 1 = .ok (.getfield 74, 3) := by decide +kernel
theorem dX12_say_4 : decode bX12_say.2.1 4 = .ok (.aload_n 0, 1) := by decide +kernel
theorem dX12_say_5 : decode bX12_say.2.1 5 = .ok (.getfield 330, 3) := by decide +kernel
theorem dX12_say_8 : decode bX12_say.2.1 8 = .ok (.iload_n 1, 1) := by decide +kernel
theorem dX12_say_9 : decode bX12_say.2.1 9 = .ok (.iastore, 1) := by decide +kernel
theorem dX12_say_10 : decode bX12_say.2.1 10 = .ok (.aload_n 0, 1) := by decide +kernel
theorem dX12_say_11 : decode bX12_say.2.1 11 = .ok (.dup, 1) := by decide +kernel
theorem dX12_say_12 : decode bX12_say.2.1 12 = .ok (.getfield 330, 3) := by decide +kernel
theorem dX12_say_15 : decode bX12_say.2.1 15 = .ok (.iconst 1, 1) := by decide +kernel
theorem dX12_say_16 : decode bX12_say.2.1 16 = .ok (.iadd, 1) := by decide +kernel
theorem dX12_say_17 : decode bX12_say.2.1 17 = .ok (.putfield 330, 3) := by decide +kernel
theorem dX12_say_20 : decode bX12_say.2.1 20 = .ok (.aload_n 0, 1) := by decide +kernel
theorem dX12_say_21 : decode bX12_say.2.1 21 = .ok (.dup, 1) := by decide +kernel
theorem dX12_say_22 : decode bX12_say.2.1 22 = .ok (.getfield 333, 3) := by decide +kernel
theorem dX12_say_25 : decode bX12_say.2.1 25 = .ok (.aload_n 0, 1) := by decide +kernel
theorem dX12_say_26 : decode bX12_say.2.1 26 = .ok (.getfield 55, 3) := by decide +kernel
theorem dX12_say_29 : decode bX12_say.2.1 29 = .ok (.iload_n 1, 1) := by decide +kernel
theorem dX12_say_30 : decode bX12_say.2.1 30 = .ok (.iaload, 1) := by decide +kernel
theorem dX12_say_31 : decode bX12_say.2.1 31 = .ok (.iadd, 1) := by decide +kernel
theorem dX12_say_32 : decode bX12_say.2.1 32 = .ok (.putfield 333, 3) := by decide +kernel
theorem dX12_say_35 : decode bX12_say.2.1 35 = .ok (.return_, 1) := by decide +kernel
theorem dX12_begin_0 : decode bX12_begin.2.1 0 = .ok (.aload_n 0, 1) := by decide +kernel
theorem dX12_begin_1 : decode bX12_begin.2.1 1 = .ok (.iconst 0, 1) := by decide +kernel
theorem dX12_begin_2 : decode bX12_begin.2.1 2 = .ok (.putfield 330, 3) := by decide +kernel
theorem dX12_begin_5 : decode bX12_begin.2.1 5 = .ok (.aload_n 0, 1) := by decide +kernel
theorem dX12_begin_6 : decode bX12_begin.2.1 6 = .ok (.iconst (-1), 1) := by decide +kernel
theorem dX12_begin_7 : decode bX12_begin.2.1 7 = .ok (.putfield 336, 3) := by decide +kernel
theorem dX12_begin_10 : decode bX12_begin.2.1 10 = .ok (.aload_n 0, 1) := by decide +kernel
theorem dX12_begin_11 : decode bX12_begin.2.1 11 = .ok (.iconst (-1), 1) := by decide +kernel
theorem dX12_begin_12 : decode bX12_begin.2.1 12 = .ok (.putfield 339, 3) := by decide +kernel
theorem dX12_begin_15 : decode bX12_begin.2.1 15 = .ok (.aload_n 0, 1) := by decide +kernel
theorem dX12_begin_16 : decode bX12_begin.2.1 16 = .ok (.iconst 0, 1) := by decide +kernel
theorem dX12_begin_17 : decode bX12_begin.2.1 17 = .ok (.putfield 333, 3) := by decide +kernel
theorem dX12_begin_20 : decode bX12_begin.2.1 20 = .ok (.return_, 1) := by decide +kernel
theorem dX12_lose_0 : decode bX12_lose.2.1 0 = .ok (.aload_n 0, 1) := by decide +kernel
theorem dX12_lose_1 : decode bX12_lose.2.1 1 = .ok (.iload_n 1, 1) := by decide +kernel
theorem dX12_lose_2 : decode bX12_lose.2.1 2 = .ok (.invokevirtual 326, 3) := by decide +kernel
theorem dX12_lose_5 : decode bX12_lose.2.1 5 = .ok (.istore_n 2, 1) := by decide +kernel
theorem dX12_lose_6 : decode bX12_lose.2.1 6 = .ok (.iload_n 2, 1) := by decide +kernel
theorem dX12_lose_7 : decode bX12_lose.2.1 7 = .ok (.iconst (-1), 1) := by decide +kernel
theorem dX12_lose_8 : decode bX12_lose.2.1 8 = .ok (.if_icmp .ne 15, 3) := by decide +kernel
theorem dX12_lose_11 : decode bX12_lose.2.1 11 = .ok (.aload_n 0, 1) := by decide +kernel
theorem dX12_lose_12 : decode bX12_lose.2.1 12 = .ok (.iconst 1, 1) := by decide +kernel
theorem dX12_lose_13 : decode bX12_lose.2.1 13 = .ok (.putfield 336, 3) := by decide +kernel
theorem dX12_lose_16 : decode bX12_lose.2.1 16 = .ok (.aload_n 0, 1) := by decide +kernel
theorem dX12_lose_17 : decode bX12_lose.2.1 17 = .ok (.iload_n 1, 1) := by decide +kernel
theorem dX12_lose_18 : decode bX12_lose.2.1 18 = .ok (.putfield 339, 3) := by decide +kernel
theorem dX12_lose_21 : decode bX12_lose.2.1 21 = .ok (.iconst (-1), 1) := by decide +kernel
theorem dX12_lose_22 : decode bX12_lose.2.1 22 = .ok (.ireturn, 1) := by decide +kernel
theorem dX12_lose_23 : decode bX12_lose.2.1 23 = .ok (.aload_n 0, 1) := by decide +kernel
theorem dX12_lose_24 : decode bX12_lose.2.1 24 = .ok (.iload_n 2, 1) := by decide +kernel
theorem dX12_lose_25 : decode bX12_lose.2.1 25 = .ok (.invokevirtual 342, 3) := by decide +kernel
theorem dX12_lose_28 : decode bX12_lose.2.1 28 = .ok (.iload_n 2, 1) := by decide +kernel
theorem dX12_lose_29 : decode bX12_lose.2.1 29 = .ok (.iconst 1, 1) := by decide +kernel
theorem dX12_lose_30 : decode bX12_lose.2.1 30 = .ok (.iadd, 1) := by decide +kernel
theorem dX12_lose_31 : decode bX12_lose.2.1 31 = .ok (.ireturn, 1) := by decide +kernel
theorem dX12_goThrough_0 : decode bX12_goThrough.2.1 0 = .ok (.aload_n 0, 1) := by decide +kernel
theorem dX12_goThrough_1 : decode bX12_goThrough.2.1 1 = .ok (.invokevirtual 345, 3) := by decide +kernel
theorem dX12_goThrough_4 : decode bX12_goThrough.2.1 4 = .ok (.iload_n 1, 1) := by decide +kernel
theorem dX12_goThrough_5 : decode bX12_goThrough.2.1 5 = .ok (.istore_n 2, 1) := by decide +kernel
theorem dX12_goThrough_6 : decode bX12_goThrough.2.1 6 = .ok (.iconst 0, 1) := by decide +kernel
theorem dX12_goThrough_7 : decode bX12_goThrough.2.1 7 = .ok (.istore_n 3, 1) := by decide +kernel
theorem dX12_goThrough_8 : decode bX12_goThrough.2.1 8 = .ok (.aload_n 0, 1) := by decide +kernel
theorem dX12_goThrough_9 : decode bX12_goThrough.2.1 9 = .ok (.getfield 336, 3) := by decide +kernel
theorem dX12_goThrough_12 : decode bX12_goThrough.2.1 12 = .ok (.iconst (-1), 1) := by decide +kernel
theorem dX12_goThrough_13 : decode bX12_goThrough.2.1 13 = .ok (.if_icmp .ne 73, 3) := by decide +kernel
theorem dX12_goThrough_16 : decode bX12_goThrough.2.1 16 = .ok (.iload_n 3, 1) := by decide +kernel
theorem dX12_goThrough_17 : decode bX12_goThrough.2.1 17 = .ok (.aload_n 0, 1) := by decide +kernel
theorem dX12_goThrough_18 : decode bX12_goThrough.2.1 18 = .ok (.getfield 268, 3) := by decide +kernel
theorem dX12_goThrough_21 : decode bX12_goThrough.2.1 21 = .ok (.if_icmp .ne 11, 3) := by decide +kernel
theorem dX12_goThrough_24 : decode bX12_goThrough.2.1 24 = .ok (.aload_n 0, 1) := by decide +kernel
theorem dX12_goThrough_25 : decode bX12_goThrough.2.1 25 = .ok (.iconst 0, 1) := by decide +kernel
theorem dX12_goThrough_26 : decode bX12_goThrough.2.1 26 = .ok (.putfield 336, 3) := by decide +kernel
theorem dX12_goThrough_29 : decode bX12_goThrough.2.1 29 = .ok (.goto (-21), 3) := by decide +kernel
theorem dX12_goThrough_32 : decode bX12_goThrough.2.1 32 = .ok (.aload_n 0, 1) := by decide +kernel
theorem dX12_goThrough_33 : decode bX12_goThrough.2.1 33 = .ok (.getfield 330, 3) := by decide +kernel
theorem dX12_goThrough_36 : decode bX12_goThrough.2.1 36 = .ok (.sipush 200, 3) := by decide +kernel
theorem dX12_goThrough_39 : decode bX12_goThrough.2.1 39 = .ok (.if_icmp .ne 11, 3) := by decide +kernel
theorem dX12_goThrough_42 : decode bX12_goThrough.2.1 42 = .ok (.aload_n 0, 1) := by decide +kernel
theorem dX12_goThrough_43 : decode bX12_goThrough.2.1 43 = .ok (.iconst 2, 1) := by decide +kernel
theorem dX12_goThrough_44 : decode bX12_goThrough.2.1 44 = .ok (.putfield 336, 3) := by decide +kernel
theorem dX12_goThrough_47 : decode bX12_goThrough.2.1 47 = .ok (.goto (-39), 3) := by decide +kernel
theorem dX12_goThrough_50 : decode bX12_goThrough.2.1 50 = .ok (.iload_n 2, 1) := by decide +kernel
theorem dX12_goThrough_51 : decode bX12_goThrough.2.1 51 = .ok (.iload_n 3, 1) := by decide +kernel
theorem dX12_goThrough_52 : decode bX12_goThrough.2.1 52 = .ok (.invokestatic 271, 3) := by decide +kernel
theorem dX12_goThrough_55 : decode bX12_goThrough.2.1 55 = .ok (.ifCond .eq 20, 3) := by decide +kernel
theorem dX12_goThrough_58 : decode bX12_goThrough.2.1 58 = .ok (.iload_n 2, 1) := by decide +kernel
theorem dX12_goThrough_59 : decode bX12_goThrough.2.1 59 = .ok (.iconst 1, 1) := by decide +kernel
theorem dX12_goThrough_60 : decode bX12_goThrough.2.1 60 = .ok (.iload_n 3, 1) := by decide +kernel
theorem dX12_goThrough_61 : decode bX12_goThrough.2.1 61 = .ok (.ishl, 1) := by decide +kernel
theorem dX12_goThrough_62 : decode bX12_goThrough.2.1 62 = .ok (.iconst (-1), 1) := by decide +kernel
theorem dX12_goThrough_63 : decode bX12_goThrough.2.1 63 = .ok (.ixor, 1) := by decide +kernel
theorem dX12_goThrough_64 : decode bX12_goThrough.2.1 64 = .ok (.iand, 1) := by decide +kernel
theorem dX12_goThrough_65 : decode bX12_goThrough.2.1 65 = .ok (.istore_n 2, 1) := by decide +kernel
theorem dX12_goThrough_66 : decode bX12_goThrough.2.1 66 = .ok (.aload_n 0, 1) := by decide +kernel
theorem dX12_goThrough_67 : decode bX12_goThrough.2.1 67 = .ok (.iload_n 3, 1) := by decide +kernel
theorem dX12_goThrough_68 : decode bX12_goThrough.2.1 68 = .ok (.invokevirtual 348, 3) := by decide +kernel
theorem dX12_goThrough_71 : decode bX12_goThrough.2.1 71 = .ok (.istore_n 3, 1) := by decide +kernel
theorem dX12_goThrough_72 : decode bX12_goThrough.2.1 72 = .ok (.goto (-64), 3) := by decide +kernel
theorem dX12_goThrough_75 : decode bX12_goThrough.2.1 75 = .ok (.aload_n 0, 1) := by decide +kernel
theorem dX12_goThrough_76 : decode bX12_goThrough.2.1 76 = .ok (.iload_n 3, 1) := by decide +kernel
theorem dX12_goThrough_77 : decode bX12_goThrough.2.1 77 = .ok (.invokevirtual 342, 3) := by decide +kernel
theorem dX12_goThrough_80 : decode bX12_goThrough.2.1 80 = .ok (.iinc 3 1, 3) := by decide +kernel
theorem dX12_goThrough_83 : decode bX12_goThrough.2.1 83 = .ok (.goto (-75), 3) := by decide +kernel
theorem dX12_goThrough_86 : decode bX12_goThrough.2.1 86 = .ok (.return_, 1) := by decide +kernel
theorem dX12_areLosses_0 : decode bX12_areLosses.2.1 0 = .ok (.aload_n 0, 1) := by decide +kernel
theorem dX12_areLosses_1 : decode bX12_areLosses.2.1 1 = .ok (.getfield 268, 3) := by decide +kernel
theorem dX12_areLosses_4 : decode bX12_areLosses.2.1 4 = .ok (.ifCond .le 21, 3) := by decide +kernel
theorem dX12_areLosses_7 : decode bX12_areLosses.2.1 7 = .ok (.iload_n 1, 1) := by decide +kernel
theorem dX12_areLosses_8 : decode bX12_areLosses.2.1 8 = .ok (.ifCond .lt 17, 3) := by decide +kernel
theorem dX12_areLosses_11 : decode bX12_areLosses.2.1 11 = .ok (.iload_n 1, 1) := by decide +kernel
theorem dX12_areLosses_12 : decode bX12_areLosses.2.1 12 = .ok (.iconst 1, 1) := by decide +kernel
theorem dX12_areLosses_13 : decode bX12_areLosses.2.1 13 = .ok (.aload_n 0, 1) := by decide +kernel
theorem dX12_areLosses_14 : decode bX12_areLosses.2.1 14 = .ok (.getfield 268, 3) := by decide +kernel
theorem dX12_areLosses_17 : decode bX12_areLosses.2.1 17 = .ok (.ishl, 1) := by decide +kernel
theorem dX12_areLosses_18 : decode bX12_areLosses.2.1 18 = .ok (.if_icmp .ge 7, 3) := by decide +kernel
theorem dX12_areLosses_21 : decode bX12_areLosses.2.1 21 = .ok (.iconst 1, 1) := by decide +kernel
theorem dX12_areLosses_22 : decode bX12_areLosses.2.1 22 = .ok (.goto 4, 3) := by decide +kernel
theorem dX12_areLosses_25 : decode bX12_areLosses.2.1 25 = .ok (.iconst 0, 1) := by decide +kernel
theorem dX12_areLosses_26 : decode bX12_areLosses.2.1 26 = .ok (.ireturn, 1) := by decide +kernel
theorem dX12_evening_0 : decode bX12_evening.2.1 0 = .ok (.aload_n 0, 1) := by decide +kernel
theorem dX12_evening_1 : decode bX12_evening.2.1 1 = .ok (.iload_n 1, 1) := by decide +kernel
theorem dX12_evening_2 : decode bX12_evening.2.1 2 = .ok (.invokevirtual 351, 3) := by decide +kernel
theorem dX12_evening_5 : decode bX12_evening.2.1 5 = .ok (.ifCond .ne 5, 3) := by decide +kernel
theorem dX12_evening_8 : decode bX12_evening.2.1 8 = .ok (.iconst (-1), 1) := by decide +kernel
theorem dX12_evening_9 : decode bX12_evening.2.1 9 = .ok (.ireturn, 1) := by decide +kernel
theorem dX12_evening_10 : decode bX12_evening.2.1 10 = .ok (.aload_n 0, 1) := by decide +kernel
theorem dX12_evening_11 : decode bX12_evening.2.1 11 = .ok (.iload_n 1, 1) := by decide +kernel
theorem dX12_evening_12 : decode bX12_evening.2.1 12 = .ok (.invokevirtual 354, 3) := by decide +kernel
theorem dX12_evening_15 : decode bX12_evening.2.1 15 = .ok (.iload_n 2, 1) := by decide +kernel
theorem dX12_evening_16 : decode bX12_evening.2.1 16 = .ok (.iconst (-1), 1) := by decide +kernel
theorem dX12_evening_17 : decode bX12_evening.2.1 17 = .ok (.if_icmp .ne 10, 3) := by decide +kernel
theorem dX12_evening_20 : decode bX12_evening.2.1 20 = .ok (.aload_n 0, 1) := by decide +kernel
theorem dX12_evening_21 : decode bX12_evening.2.1 21 = .ok (.getfield 330, 3) := by decide +kernel
theorem dX12_evening_24 : decode bX12_evening.2.1 24 = .ok (.goto 27, 3) := by decide +kernel
theorem dX12_evening_27 : decode bX12_evening.2.1 27 = .ok (.iload_n 2, 1) := by decide +kernel
theorem dX12_evening_28 : decode bX12_evening.2.1 28 = .ok (.iconst 0, 1) := by decide +kernel
theorem dX12_evening_29 : decode bX12_evening.2.1 29 = .ok (.aload_n 0, 1) := by decide +kernel
theorem dX12_evening_30 : decode bX12_evening.2.1 30 = .ok (.getfield 330, 3) := by decide +kernel
theorem dX12_evening_33 : decode bX12_evening.2.1 33 = .ok (.iconst 1, 1) := by decide +kernel
theorem dX12_evening_34 : decode bX12_evening.2.1 34 = .ok (.isub, 1) := by decide +kernel
theorem dX12_evening_35 : decode bX12_evening.2.1 35 = .ok (.invokestatic 229, 3) := by decide +kernel
theorem dX12_evening_38 : decode bX12_evening.2.1 38 = .ok (.ifCond .eq 12, 3) := by decide +kernel
theorem dX12_evening_41 : decode bX12_evening.2.1 41 = .ok (.aload_n 0, 1) := by decide +kernel
theorem dX12_evening_42 : decode bX12_evening.2.1 42 = .ok (.getfield 74, 3) := by decide +kernel
theorem dX12_evening_45 : decode bX12_evening.2.1 45 = .ok (.iload_n 2, 1) := by decide +kernel
theorem dX12_evening_46 : decode bX12_evening.2.1 46 = .ok (.iaload, 1) := by decide +kernel
theorem dX12_evening_47 : decode bX12_evening.2.1 47 = .ok (.goto 4, 3) := by decide +kernel
theorem dX12_evening_50 : decode bX12_evening.2.1 50 = .ok (.iconst (-1), 1) := by decide +kernel
theorem dX12_evening_51 : decode bX12_evening.2.1 51 = .ok (.ireturn, 1) := by decide +kernel
theorem dX12_ends_0 : decode bX12_ends.2.1 0 = .ok (.aload_n 0, 1) := by decide +kernel
theorem dX12_ends_1 : decode bX12_ends.2.1 1 = .ok (.iload_n 1, 1) := by decide +kernel
theorem dX12_ends_2 : decode bX12_ends.2.1 2 = .ok (.invokevirtual 351, 3) := by decide +kernel
theorem dX12_ends_5 : decode bX12_ends.2.1 5 = .ok (.ifCond .eq 12, 3) := by decide +kernel
theorem dX12_ends_8 : decode bX12_ends.2.1 8 = .ok (.iload_n 2, 1) := by decide +kernel
theorem dX12_ends_9 : decode bX12_ends.2.1 9 = .ok (.iconst 0, 1) := by decide +kernel
theorem dX12_ends_10 : decode bX12_ends.2.1 10 = .ok (.iconst 2, 1) := by decide +kernel
theorem dX12_ends_11 : decode bX12_ends.2.1 11 = .ok (.invokestatic 229, 3) := by decide +kernel
theorem dX12_ends_14 : decode bX12_ends.2.1 14 = .ok (.ifCond .ne 7, 3) := by decide +kernel
theorem dX12_ends_17 : decode bX12_ends.2.1 17 = .ok (.ldc_w 329, 3) := by decide +kernel
theorem dX12_ends_20 : decode bX12_ends.2.1 20 = .ok (.ireturn, 1) := by decide +kernel
theorem dX12_ends_21 : decode bX12_ends.2.1 21 = .ok (.aload_n 0, 1) := by decide +kernel
theorem dX12_ends_22 : decode bX12_ends.2.1 22 = .ok (.iload_n 1, 1) := by decide +kernel
theorem dX12_ends_23 : decode bX12_ends.2.1 23 = .ok (.invokevirtual 354, 3) := by decide +kernel
theorem dX12_ends_26 : decode bX12_ends.2.1 26 = .ok (.iload_n 2, 1) := by decide +kernel
theorem dX12_ends_27 : decode bX12_ends.2.1 27 = .ok (.ifCond .ne 10, 3) := by decide +kernel
theorem dX12_ends_30 : decode bX12_ends.2.1 30 = .ok (.aload_n 0, 1) := by decide +kernel
theorem dX12_ends_31 : decode bX12_ends.2.1 31 = .ok (.getfield 336, 3) := by decide +kernel
theorem dX12_ends_34 : decode bX12_ends.2.1 34 = .ok (.goto 19, 3) := by decide +kernel
theorem dX12_ends_37 : decode bX12_ends.2.1 37 = .ok (.iload_n 2, 1) := by decide +kernel
theorem dX12_ends_38 : decode bX12_ends.2.1 38 = .ok (.iconst 1, 1) := by decide +kernel
theorem dX12_ends_39 : decode bX12_ends.2.1 39 = .ok (.if_icmp .ne 10, 3) := by decide +kernel
theorem dX12_ends_42 : decode bX12_ends.2.1 42 = .ok (.aload_n 0, 1) := by decide +kernel
theorem dX12_ends_43 : decode bX12_ends.2.1 43 = .ok (.getfield 339, 3) := by decide +kernel
theorem dX12_ends_46 : decode bX12_ends.2.1 46 = .ok (.goto 7, 3) := by decide +kernel
theorem dX12_ends_49 : decode bX12_ends.2.1 49 = .ok (.aload_n 0, 1) := by decide +kernel
theorem dX12_ends_50 : decode bX12_ends.2.1 50 = .ok (.getfield 333, 3) := by decide +kernel
theorem dX12_ends_53 : decode bX12_ends.2.1 53 = .ok (.ireturn, 1) := by decide +kernel
theorem dX12_draw_0 : decode bX12_draw.2.1 0 = .ok (.aload_n 0, 1) := by decide +kernel
theorem dX12_draw_1 : decode bX12_draw.2.1 1 = .ok (.aload_n 0, 1) := by decide +kernel
theorem dX12_draw_2 : decode bX12_draw.2.1 2 = .ok (.getfield 357, 3) := by decide +kernel
theorem dX12_draw_5 : decode bX12_draw.2.1 5 = .ok (.ldc2_w 361, 3) := by decide +kernel
theorem dX12_draw_8 : decode bX12_draw.2.1 8 = .ok (.lmul, 1) := by decide +kernel
theorem dX12_draw_9 : decode bX12_draw.2.1 9 = .ok (.ldc2_w 363, 3) := by decide +kernel
theorem dX12_draw_12 : decode bX12_draw.2.1 12 = .ok (.ladd, 1) := by decide +kernel
theorem dX12_draw_13 : decode bX12_draw.2.1 13 = .ok (.putfield 357, 3) := by decide +kernel
theorem dX12_draw_16 : decode bX12_draw.2.1 16 = .ok (.aload_n 0, 1) := by decide +kernel
theorem dX12_draw_17 : decode bX12_draw.2.1 17 = .ok (.getfield 357, 3) := by decide +kernel
theorem dX12_draw_20 : decode bX12_draw.2.1 20 = .ok (.bipush 33, 2) := by decide +kernel
theorem dX12_draw_22 : decode bX12_draw.2.1 22 = .ok (.lushr, 1) := by decide +kernel
theorem dX12_draw_23 : decode bX12_draw.2.1 23 = .ok (.ldc2_w 365, 3) := by decide +kernel
theorem dX12_draw_26 : decode bX12_draw.2.1 26 = .ok (.lrem, 1) := by decide +kernel
theorem dX12_draw_27 : decode bX12_draw.2.1 27 = .ok (.l2i, 1) := by decide +kernel
theorem dX12_draw_28 : decode bX12_draw.2.1 28 = .ok (.ireturn, 1) := by decide +kernel
theorem dX12_drawn_0 : decode bX12_drawn.2.1 0 = .ok (.aload_n 0, 1) := by decide +kernel
theorem dX12_drawn_1 : decode bX12_drawn.2.1 1 = .ok (.invokevirtual 345, 3) := by decide +kernel
theorem dX12_drawn_4 : decode bX12_drawn.2.1 4 = .ok (.aload_n 0, 1) := by decide +kernel
theorem dX12_drawn_5 : decode bX12_drawn.2.1 5 = .ok (.lload_n 1, 1) := by decide +kernel
theorem dX12_drawn_6 : decode bX12_drawn.2.1 6 = .ok (.putfield 357, 3) := by decide +kernel
theorem dX12_drawn_9 : decode bX12_drawn.2.1 9 = .ok (.aload_n 0, 1) := by decide +kernel
theorem dX12_drawn_10 : decode bX12_drawn.2.1 10 = .ok (.iconst 0, 1) := by decide +kernel
theorem dX12_drawn_11 : decode bX12_drawn.2.1 11 = .ok (.putfield 367, 3) := by decide +kernel
theorem dX12_drawn_14 : decode bX12_drawn.2.1 14 = .ok (.aload_n 0, 1) := by decide +kernel
theorem dX12_drawn_15 : decode bX12_drawn.2.1 15 = .ok (.iconst 0, 1) := by decide +kernel
theorem dX12_drawn_16 : decode bX12_drawn.2.1 16 = .ok (.putfield 370, 3) := by decide +kernel
theorem dX12_drawn_19 : decode bX12_drawn.2.1 19 = .ok (.aload_n 0, 1) := by decide +kernel
theorem dX12_drawn_20 : decode bX12_drawn.2.1 20 = .ok (.iconst 0, 1) := by decide +kernel
theorem dX12_drawn_21 : decode bX12_drawn.2.1 21 = .ok (.putfield 373, 3) := by decide +kernel
theorem dX12_drawn_24 : decode bX12_drawn.2.1 24 = .ok (.iconst 0, 1) := by decide +kernel
theorem dX12_drawn_25 : decode bX12_drawn.2.1 25 = .ok (.istore_n 3, 1) := by decide +kernel
theorem dX12_drawn_26 : decode bX12_drawn.2.1 26 = .ok (.iload_n 3, 1) := by decide +kernel
theorem dX12_drawn_27 : decode bX12_drawn.2.1 27 = .ok (.aload_n 0, 1) := by decide +kernel
theorem dX12_drawn_28 : decode bX12_drawn.2.1 28 = .ok (.getfield 268, 3) := by decide +kernel
theorem dX12_drawn_31 : decode bX12_drawn.2.1 31 = .ok (.if_icmp .ge 16, 3) := by decide +kernel
theorem dX12_drawn_34 : decode bX12_drawn.2.1 34 = .ok (.aload_n 0, 1) := by decide +kernel
theorem dX12_drawn_35 : decode bX12_drawn.2.1 35 = .ok (.getfield 80, 3) := by decide +kernel
theorem dX12_drawn_38 : decode bX12_drawn.2.1 38 = .ok (.iload_n 3, 1) := by decide +kernel
theorem dX12_drawn_39 : decode bX12_drawn.2.1 39 = .ok (.iconst 0, 1) := by decide +kernel
theorem dX12_drawn_40 : decode bX12_drawn.2.1 40 = .ok (.iastore, 1) := by decide +kernel
theorem dX12_drawn_41 : decode bX12_drawn.2.1 41 = .ok (.iinc 3 1, 3) := by decide +kernel
theorem dX12_drawn_44 : decode bX12_drawn.2.1 44 = .ok (.goto (-18), 3) := by decide +kernel
theorem dX12_drawn_47 : decode bX12_drawn.2.1 47 = .ok (.iconst 0, 1) := by decide +kernel
theorem dX12_drawn_48 : decode bX12_drawn.2.1 48 = .ok (.istore_n 3, 1) := by decide +kernel
theorem dX12_drawn_49 : decode bX12_drawn.2.1 49 = .ok (.aload_n 0, 1) := by decide +kernel
theorem dX12_drawn_50 : decode bX12_drawn.2.1 50 = .ok (.getfield 336, 3) := by decide +kernel
theorem dX12_drawn_53 : decode bX12_drawn.2.1 53 = .ok (.iconst (-1), 1) := by decide +kernel
theorem dX12_drawn_54 : decode bX12_drawn.2.1 54 = .ok (.if_icmp .ne 46, 3) := by decide +kernel
theorem dX12_drawn_57 : decode bX12_drawn.2.1 57 = .ok (.iload_n 3, 1) := by decide +kernel
theorem dX12_drawn_58 : decode bX12_drawn.2.1 58 = .ok (.aload_n 0, 1) := by decide +kernel
theorem dX12_drawn_59 : decode bX12_drawn.2.1 59 = .ok (.getfield 268, 3) := by decide +kernel
theorem dX12_drawn_62 : decode bX12_drawn.2.1 62 = .ok (.if_icmp .ne 11, 3) := by decide +kernel
theorem dX12_drawn_65 : decode bX12_drawn.2.1 65 = .ok (.aload_n 0, 1) := by decide +kernel
theorem dX12_drawn_66 : decode bX12_drawn.2.1 66 = .ok (.iconst 0, 1) := by decide +kernel
theorem dX12_drawn_67 : decode bX12_drawn.2.1 67 = .ok (.putfield 336, 3) := by decide +kernel
theorem dX12_drawn_70 : decode bX12_drawn.2.1 70 = .ok (.goto (-21), 3) := by decide +kernel
theorem dX12_drawn_73 : decode bX12_drawn.2.1 73 = .ok (.aload_n 0, 1) := by decide +kernel
theorem dX12_drawn_74 : decode bX12_drawn.2.1 74 = .ok (.getfield 330, 3) := by decide +kernel
theorem dX12_drawn_77 : decode bX12_drawn.2.1 77 = .ok (.sipush 200, 3) := by decide +kernel
theorem dX12_drawn_80 : decode bX12_drawn.2.1 80 = .ok (.if_icmp .ne 11, 3) := by decide +kernel
theorem dX12_drawn_83 : decode bX12_drawn.2.1 83 = .ok (.aload_n 0, 1) := by decide +kernel
theorem dX12_drawn_84 : decode bX12_drawn.2.1 84 = .ok (.iconst 2, 1) := by decide +kernel
theorem dX12_drawn_85 : decode bX12_drawn.2.1 85 = .ok (.putfield 336, 3) := by decide +kernel
theorem dX12_drawn_88 : decode bX12_drawn.2.1 88 = .ok (.goto (-39), 3) := by decide +kernel
theorem dX12_drawn_91 : decode bX12_drawn.2.1 91 = .ok (.aload_n 0, 1) := by decide +kernel
theorem dX12_drawn_92 : decode bX12_drawn.2.1 92 = .ok (.iload_n 3, 1) := by decide +kernel
theorem dX12_drawn_93 : decode bX12_drawn.2.1 93 = .ok (.invokevirtual 376, 3) := by decide +kernel
theorem dX12_drawn_96 : decode bX12_drawn.2.1 96 = .ok (.istore_n 3, 1) := by decide +kernel
theorem dX12_drawn_97 : decode bX12_drawn.2.1 97 = .ok (.goto (-48), 3) := by decide +kernel
theorem dX12_drawn_100 : decode bX12_drawn.2.1 100 = .ok (.return_, 1) := by decide +kernel
theorem dX12_comes_0 : decode bX12_comes.2.1 0 = .ok (.aload_n 0, 1) := by decide +kernel
theorem dX12_comes_1 : decode bX12_comes.2.1 1 = .ok (.invokevirtual 379, 3) := by decide +kernel
theorem dX12_comes_4 : decode bX12_comes.2.1 4 = .ok (.aload_n 0, 1) := by decide +kernel
theorem dX12_comes_5 : decode bX12_comes.2.1 5 = .ok (.iload_n 1, 1) := by decide +kernel
theorem dX12_comes_6 : decode bX12_comes.2.1 6 = .ok (.invokevirtual 320, 3) := by decide +kernel
theorem dX12_comes_9 : decode bX12_comes.2.1 9 = .ok (.if_icmp .lt 12, 3) := by decide +kernel
theorem dX12_comes_12 : decode bX12_comes.2.1 12 = .ok (.aload_n 0, 1) := by decide +kernel
theorem dX12_comes_13 : decode bX12_comes.2.1 13 = .ok (.iload_n 1, 1) := by decide +kernel
theorem dX12_comes_14 : decode bX12_comes.2.1 14 = .ok (.invokevirtual 342, 3) := by decide +kernel
theorem dX12_comes_17 : decode bX12_comes.2.1 17 = .ok (.iload_n 1, 1) := by decide +kernel
theorem dX12_comes_18 : decode bX12_comes.2.1 18 = .ok (.iconst 1, 1) := by decide +kernel
theorem dX12_comes_19 : decode bX12_comes.2.1 19 = .ok (.iadd, 1) := by decide +kernel
theorem dX12_comes_20 : decode bX12_comes.2.1 20 = .ok (.ireturn, 1) := by decide +kernel
theorem dX12_comes_21 : decode bX12_comes.2.1 21 = .ok (.aload_n 0, 1) := by decide +kernel
theorem dX12_comes_22 : decode bX12_comes.2.1 22 = .ok (.dup, 1) := by decide +kernel
theorem dX12_comes_23 : decode bX12_comes.2.1 23 = .ok (.getfield 367, 3) := by decide +kernel
theorem dX12_comes_26 : decode bX12_comes.2.1 26 = .ok (.iconst 1, 1) := by decide +kernel
theorem dX12_comes_27 : decode bX12_comes.2.1 27 = .ok (.iadd, 1) := by decide +kernel
theorem dX12_comes_28 : decode bX12_comes.2.1 28 = .ok (.putfield 367, 3) := by decide +kernel
theorem dX12_comes_31 : decode bX12_comes.2.1 31 = .ok (.aload_n 0, 1) := by decide +kernel
theorem dX12_comes_32 : decode bX12_comes.2.1 32 = .ok (.getfield 80, 3) := by decide +kernel
theorem dX12_comes_35 : decode bX12_comes.2.1 35 = .ok (.iload_n 1, 1) := by decide +kernel
theorem dX12_comes_36 : decode bX12_comes.2.1 36 = .ok (.dup2, 1) := by decide +kernel
theorem dX12_comes_37 : decode bX12_comes.2.1 37 = .ok (.iaload, 1) := by decide +kernel
theorem dX12_comes_38 : decode bX12_comes.2.1 38 = .ok (.iconst 1, 1) := by decide +kernel
theorem dX12_comes_39 : decode bX12_comes.2.1 39 = .ok (.iadd, 1) := by decide +kernel
theorem dX12_comes_40 : decode bX12_comes.2.1 40 = .ok (.iastore, 1) := by decide +kernel
theorem dX12_comes_41 : decode bX12_comes.2.1 41 = .ok (.aload_n 0, 1) := by decide +kernel
theorem dX12_comes_42 : decode bX12_comes.2.1 42 = .ok (.getfield 275, 3) := by decide +kernel
theorem dX12_comes_45 : decode bX12_comes.2.1 45 = .ok (.iload_n 1, 1) := by decide +kernel
theorem dX12_comes_46 : decode bX12_comes.2.1 46 = .ok (.invokestatic 271, 3) := by decide +kernel
theorem dX12_comes_49 : decode bX12_comes.2.1 49 = .ok (.ifCond .eq 50, 3) := by decide +kernel
theorem dX12_comes_52 : decode bX12_comes.2.1 52 = .ok (.aload_n 0, 1) := by decide +kernel
theorem dX12_comes_53 : decode bX12_comes.2.1 53 = .ok (.invokevirtual 379, 3) := by decide +kernel
theorem dX12_comes_56 : decode bX12_comes.2.1 56 = .ok (.aload_n 0, 1) := by decide +kernel
theorem dX12_comes_57 : decode bX12_comes.2.1 57 = .ok (.getfield 68, 3) := by decide +kernel
theorem dX12_comes_60 : decode bX12_comes.2.1 60 = .ok (.aload_n 0, 1) := by decide +kernel
theorem dX12_comes_61 : decode bX12_comes.2.1 61 = .ok (.getfield 49, 3) := by decide +kernel
theorem dX12_comes_64 : decode bX12_comes.2.1 64 = .ok (.iload_n 1, 1) := by decide +kernel
theorem dX12_comes_65 : decode bX12_comes.2.1 65 = .ok (.iaload, 1) := by decide +kernel
theorem dX12_comes_66 : decode bX12_comes.2.1 66 = .ok (.iaload, 1) := by decide +kernel
theorem dX12_comes_67 : decode bX12_comes.2.1 67 = .ok (.if_icmp .ge 32, 3) := by decide +kernel
theorem dX12_comes_70 : decode bX12_comes.2.1 70 = .ok (.aload_n 0, 1) := by decide +kernel
theorem dX12_comes_71 : decode bX12_comes.2.1 71 = .ok (.dup, 1) := by decide +kernel
theorem dX12_comes_72 : decode bX12_comes.2.1 72 = .ok (.getfield 370, 3) := by decide +kernel
theorem dX12_comes_75 : decode bX12_comes.2.1 75 = .ok (.iconst 1, 1) := by decide +kernel
theorem dX12_comes_76 : decode bX12_comes.2.1 76 = .ok (.iadd, 1) := by decide +kernel
theorem dX12_comes_77 : decode bX12_comes.2.1 77 = .ok (.putfield 370, 3) := by decide +kernel
theorem dX12_comes_80 : decode bX12_comes.2.1 80 = .ok (.aload_n 0, 1) := by decide +kernel
theorem dX12_comes_81 : decode bX12_comes.2.1 81 = .ok (.dup, 1) := by decide +kernel
theorem dX12_comes_82 : decode bX12_comes.2.1 82 = .ok (.getfield 333, 3) := by decide +kernel
theorem dX12_comes_85 : decode bX12_comes.2.1 85 = .ok (.iconst 3, 1) := by decide +kernel
theorem dX12_comes_86 : decode bX12_comes.2.1 86 = .ok (.iadd, 1) := by decide +kernel
theorem dX12_comes_87 : decode bX12_comes.2.1 87 = .ok (.putfield 333, 3) := by decide +kernel
theorem dX12_comes_90 : decode bX12_comes.2.1 90 = .ok (.aload_n 0, 1) := by decide +kernel
theorem dX12_comes_91 : decode bX12_comes.2.1 91 = .ok (.iload_n 1, 1) := by decide +kernel
theorem dX12_comes_92 : decode bX12_comes.2.1 92 = .ok (.invokevirtual 342, 3) := by decide +kernel
theorem dX12_comes_95 : decode bX12_comes.2.1 95 = .ok (.iload_n 1, 1) := by decide +kernel
theorem dX12_comes_96 : decode bX12_comes.2.1 96 = .ok (.iconst 1, 1) := by decide +kernel
theorem dX12_comes_97 : decode bX12_comes.2.1 97 = .ok (.iadd, 1) := by decide +kernel
theorem dX12_comes_98 : decode bX12_comes.2.1 98 = .ok (.ireturn, 1) := by decide +kernel
theorem dX12_comes_99 : decode bX12_comes.2.1 99 = .ok (.aload_n 0, 1) := by decide +kernel
theorem dX12_comes_100 : decode bX12_comes.2.1 100 = .ok (.iload_n 1, 1) := by decide +kernel
theorem dX12_comes_101 : decode bX12_comes.2.1 101 = .ok (.invokevirtual 348, 3) := by decide +kernel
theorem dX12_comes_104 : decode bX12_comes.2.1 104 = .ok (.istore_n 2, 1) := by decide +kernel
theorem dX12_comes_105 : decode bX12_comes.2.1 105 = .ok (.aload_n 0, 1) := by decide +kernel
theorem dX12_comes_106 : decode bX12_comes.2.1 106 = .ok (.dup, 1) := by decide +kernel
theorem dX12_comes_107 : decode bX12_comes.2.1 107 = .ok (.getfield 373, 3) := by decide +kernel
theorem dX12_comes_110 : decode bX12_comes.2.1 110 = .ok (.iload_n 2, 1) := by decide +kernel
theorem dX12_comes_111 : decode bX12_comes.2.1 111 = .ok (.iconst (-1), 1) := by decide +kernel
theorem dX12_comes_112 : decode bX12_comes.2.1 112 = .ok (.if_icmp .ne 7, 3) := by decide +kernel
theorem dX12_comes_115 : decode bX12_comes.2.1 115 = .ok (.iconst 0, 1) := by decide +kernel
theorem dX12_comes_116 : decode bX12_comes.2.1 116 = .ok (.goto 4, 3) := by decide +kernel
theorem dX12_comes_119 : decode bX12_comes.2.1 119 = .ok (.iconst 1, 1) := by decide +kernel
theorem dX12_comes_120 : decode bX12_comes.2.1 120 = .ok (.iadd, 1) := by decide +kernel
theorem dX12_comes_121 : decode bX12_comes.2.1 121 = .ok (.putfield 373, 3) := by decide +kernel
theorem dX12_comes_124 : decode bX12_comes.2.1 124 = .ok (.iload_n 2, 1) := by decide +kernel
theorem dX12_comes_125 : decode bX12_comes.2.1 125 = .ok (.ireturn, 1) := by decide +kernel
theorem dX12_night_0 : decode bX12_night.2.1 0 = .ok (.aload_n 0, 1) := by decide +kernel
theorem dX12_night_1 : decode bX12_night.2.1 1 = .ok (.getfield 268, 3) := by decide +kernel
theorem dX12_night_4 : decode bX12_night.2.1 4 = .ok (.ifCond .ne 5, 3) := by decide +kernel
theorem dX12_night_7 : decode bX12_night.2.1 7 = .ok (.iconst (-1), 1) := by decide +kernel
theorem dX12_night_8 : decode bX12_night.2.1 8 = .ok (.ireturn, 1) := by decide +kernel
theorem dX12_night_9 : decode bX12_night.2.1 9 = .ok (.aload_n 0, 1) := by decide +kernel
theorem dX12_night_10 : decode bX12_night.2.1 10 = .ok (.lload_n 1, 1) := by decide +kernel
theorem dX12_night_11 : decode bX12_night.2.1 11 = .ok (.invokevirtual 382, 3) := by decide +kernel
theorem dX12_night_14 : decode bX12_night.2.1 14 = .ok (.iconst 0, 1) := by decide +kernel
theorem dX12_night_15 : decode bX12_night.2.1 15 = .ok (.istore_n 3, 1) := by decide +kernel
theorem dX12_night_16 : decode bX12_night.2.1 16 = .ok (.iload_n 3, 1) := by decide +kernel
theorem dX12_night_17 : decode bX12_night.2.1 17 = .ok (.aload_n 0, 1) := by decide +kernel
theorem dX12_night_18 : decode bX12_night.2.1 18 = .ok (.getfield 268, 3) := by decide +kernel
theorem dX12_night_21 : decode bX12_night.2.1 21 = .ok (.if_icmp .ge 24, 3) := by decide +kernel
theorem dX12_night_24 : decode bX12_night.2.1 24 = .ok (.aload_n 0, 1) := by decide +kernel
theorem dX12_night_25 : decode bX12_night.2.1 25 = .ok (.getfield 71, 3) := by decide +kernel
theorem dX12_night_28 : decode bX12_night.2.1 28 = .ok (.iload_n 3, 1) := by decide +kernel
theorem dX12_night_29 : decode bX12_night.2.1 29 = .ok (.dup2, 1) := by decide +kernel
theorem dX12_night_30 : decode bX12_night.2.1 30 = .ok (.iaload, 1) := by decide +kernel
theorem dX12_night_31 : decode bX12_night.2.1 31 = .ok (.aload_n 0, 1) := by decide +kernel
theorem dX12_night_32 : decode bX12_night.2.1 32 = .ok (.getfield 80, 3) := by decide +kernel
theorem dX12_night_35 : decode bX12_night.2.1 35 = .ok (.iload_n 3, 1) := by decide +kernel
theorem dX12_night_36 : decode bX12_night.2.1 36 = .ok (.iaload, 1) := by decide +kernel
theorem dX12_night_37 : decode bX12_night.2.1 37 = .ok (.iadd, 1) := by decide +kernel
theorem dX12_night_38 : decode bX12_night.2.1 38 = .ok (.iastore, 1) := by decide +kernel
theorem dX12_night_39 : decode bX12_night.2.1 39 = .ok (.iinc 3 1, 3) := by decide +kernel
theorem dX12_night_42 : decode bX12_night.2.1 42 = .ok (.goto (-26), 3) := by decide +kernel
theorem dX12_night_45 : decode bX12_night.2.1 45 = .ok (.aload_n 0, 1) := by decide +kernel
theorem dX12_night_46 : decode bX12_night.2.1 46 = .ok (.getfield 77, 3) := by decide +kernel
theorem dX12_night_49 : decode bX12_night.2.1 49 = .ok (.iconst 0, 1) := by decide +kernel
theorem dX12_night_50 : decode bX12_night.2.1 50 = .ok (.aload_n 0, 1) := by decide +kernel
theorem dX12_night_51 : decode bX12_night.2.1 51 = .ok (.getfield 330, 3) := by decide +kernel
theorem dX12_night_54 : decode bX12_night.2.1 54 = .ok (.iastore, 1) := by decide +kernel
theorem dX12_night_55 : decode bX12_night.2.1 55 = .ok (.aload_n 0, 1) := by decide +kernel
theorem dX12_night_56 : decode bX12_night.2.1 56 = .ok (.getfield 77, 3) := by decide +kernel
theorem dX12_night_59 : decode bX12_night.2.1 59 = .ok (.iconst 1, 1) := by decide +kernel
theorem dX12_night_60 : decode bX12_night.2.1 60 = .ok (.aload_n 0, 1) := by decide +kernel
theorem dX12_night_61 : decode bX12_night.2.1 61 = .ok (.getfield 367, 3) := by decide +kernel
theorem dX12_night_64 : decode bX12_night.2.1 64 = .ok (.iastore, 1) := by decide +kernel
theorem dX12_night_65 : decode bX12_night.2.1 65 = .ok (.aload_n 0, 1) := by decide +kernel
theorem dX12_night_66 : decode bX12_night.2.1 66 = .ok (.getfield 77, 3) := by decide +kernel
theorem dX12_night_69 : decode bX12_night.2.1 69 = .ok (.iconst 2, 1) := by decide +kernel
theorem dX12_night_70 : decode bX12_night.2.1 70 = .ok (.aload_n 0, 1) := by decide +kernel
theorem dX12_night_71 : decode bX12_night.2.1 71 = .ok (.getfield 370, 3) := by decide +kernel
theorem dX12_night_74 : decode bX12_night.2.1 74 = .ok (.iastore, 1) := by decide +kernel
theorem dX12_night_75 : decode bX12_night.2.1 75 = .ok (.aload_n 0, 1) := by decide +kernel
theorem dX12_night_76 : decode bX12_night.2.1 76 = .ok (.getfield 77, 3) := by decide +kernel
theorem dX12_night_79 : decode bX12_night.2.1 79 = .ok (.iconst 3, 1) := by decide +kernel
theorem dX12_night_80 : decode bX12_night.2.1 80 = .ok (.aload_n 0, 1) := by decide +kernel
theorem dX12_night_81 : decode bX12_night.2.1 81 = .ok (.getfield 333, 3) := by decide +kernel
theorem dX12_night_84 : decode bX12_night.2.1 84 = .ok (.iastore, 1) := by decide +kernel
theorem dX12_night_85 : decode bX12_night.2.1 85 = .ok (.aload_n 0, 1) := by decide +kernel
theorem dX12_night_86 : decode bX12_night.2.1 86 = .ok (.getfield 77, 3) := by decide +kernel
theorem dX12_night_89 : decode bX12_night.2.1 89 = .ok (.iconst 4, 1) := by decide +kernel
theorem dX12_night_90 : decode bX12_night.2.1 90 = .ok (.aload_n 0, 1) := by decide +kernel
theorem dX12_night_91 : decode bX12_night.2.1 91 = .ok (.getfield 373, 3) := by decide +kernel
theorem dX12_night_94 : decode bX12_night.2.1 94 = .ok (.iastore, 1) := by decide +kernel
theorem dX12_night_95 : decode bX12_night.2.1 95 = .ok (.aload_n 0, 1) := by decide +kernel
theorem dX12_night_96 : decode bX12_night.2.1 96 = .ok (.iconst 1, 1) := by decide +kernel
theorem dX12_night_97 : decode bX12_night.2.1 97 = .ok (.putfield 288, 3) := by decide +kernel
theorem dX12_night_100 : decode bX12_night.2.1 100 = .ok (.aload_n 0, 1) := by decide +kernel
theorem dX12_night_101 : decode bX12_night.2.1 101 = .ok (.dup, 1) := by decide +kernel
theorem dX12_night_102 : decode bX12_night.2.1 102 = .ok (.getfield 278, 3) := by decide +kernel
theorem dX12_night_105 : decode bX12_night.2.1 105 = .ok (.iconst 1, 1) := by decide +kernel
theorem dX12_night_106 : decode bX12_night.2.1 106 = .ok (.iadd, 1) := by decide +kernel
theorem dX12_night_107 : decode bX12_night.2.1 107 = .ok (.putfield 278, 3) := by decide +kernel
theorem dX12_night_110 : decode bX12_night.2.1 110 = .ok (.aload_n 0, 1) := by decide +kernel
theorem dX12_night_111 : decode bX12_night.2.1 111 = .ok (.getfield 336, 3) := by decide +kernel
theorem dX12_night_114 : decode bX12_night.2.1 114 = .ok (.ireturn, 1) := by decide +kernel
theorem dX12_latest_0 : decode bX12_latest.2.1 0 = .ok (.aload_n 0, 1) := by decide +kernel
theorem dX12_latest_1 : decode bX12_latest.2.1 1 = .ok (.getfield 288, 3) := by decide +kernel
theorem dX12_latest_4 : decode bX12_latest.2.1 4 = .ok (.ifCond .eq 21, 3) := by decide +kernel
theorem dX12_latest_7 : decode bX12_latest.2.1 7 = .ok (.iload_n 1, 1) := by decide +kernel
theorem dX12_latest_8 : decode bX12_latest.2.1 8 = .ok (.iconst 0, 1) := by decide +kernel
theorem dX12_latest_9 : decode bX12_latest.2.1 9 = .ok (.iconst 4, 1) := by decide +kernel
theorem dX12_latest_10 : decode bX12_latest.2.1 10 = .ok (.invokestatic 229, 3) := by decide +kernel
theorem dX12_latest_13 : decode bX12_latest.2.1 13 = .ok (.ifCond .eq 12, 3) := by decide +kernel
theorem dX12_latest_16 : decode bX12_latest.2.1 16 = .ok (.aload_n 0, 1) := by decide +kernel
theorem dX12_latest_17 : decode bX12_latest.2.1 17 = .ok (.getfield 77, 3) := by decide +kernel
theorem dX12_latest_20 : decode bX12_latest.2.1 20 = .ok (.iload_n 1, 1) := by decide +kernel
theorem dX12_latest_21 : decode bX12_latest.2.1 21 = .ok (.iaload, 1) := by decide +kernel
theorem dX12_latest_22 : decode bX12_latest.2.1 22 = .ok (.goto 4, 3) := by decide +kernel
theorem dX12_latest_25 : decode bX12_latest.2.1 25 = .ok (.iconst (-1), 1) := by decide +kernel
theorem dX12_latest_26 : decode bX12_latest.2.1 26 = .ok (.ireturn, 1) := by decide +kernel
theorem dX12_learn_0 : decode bX12_learn.2.1 0 = .ok (.aload_n 0, 1) := by decide +kernel
theorem dX12_learn_1 : decode bX12_learn.2.1 1 = .ok (.getfield 268, 3) := by decide +kernel
theorem dX12_learn_4 : decode bX12_learn.2.1 4 = .ok (.ifCond .eq 13, 3) := by decide +kernel
theorem dX12_learn_7 : decode bX12_learn.2.1 7 = .ok (.iload_n 1, 1) := by decide +kernel
theorem dX12_learn_8 : decode bX12_learn.2.1 8 = .ok (.iconst 0, 1) := by decide +kernel
theorem dX12_learn_9 : decode bX12_learn.2.1 9 = .ok (.bipush 24, 2) := by decide +kernel
theorem dX12_learn_11 : decode bX12_learn.2.1 11 = .ok (.invokestatic 229, 3) := by decide +kernel
theorem dX12_learn_14 : decode bX12_learn.2.1 14 = .ok (.ifCond .ne 5, 3) := by decide +kernel
theorem dX12_learn_17 : decode bX12_learn.2.1 17 = .ok (.iconst (-1), 1) := by decide +kernel
theorem dX12_learn_18 : decode bX12_learn.2.1 18 = .ok (.ireturn, 1) := by decide +kernel
theorem dX12_learn_19 : decode bX12_learn.2.1 19 = .ok (.aload_n 0, 1) := by decide +kernel
theorem dX12_learn_20 : decode bX12_learn.2.1 20 = .ok (.iconst 0, 1) := by decide +kernel
theorem dX12_learn_21 : decode bX12_learn.2.1 21 = .ok (.putfield 275, 3) := by decide +kernel
theorem dX12_learn_24 : decode bX12_learn.2.1 24 = .ok (.iconst 0, 1) := by decide +kernel
theorem dX12_learn_25 : decode bX12_learn.2.1 25 = .ok (.istore_n 2, 1) := by decide +kernel
theorem dX12_learn_26 : decode bX12_learn.2.1 26 = .ok (.iload_n 2, 1) := by decide +kernel
theorem dX12_learn_27 : decode bX12_learn.2.1 27 = .ok (.iload_n 1, 1) := by decide +kernel
theorem dX12_learn_28 : decode bX12_learn.2.1 28 = .ok (.if_icmp .ge 94, 3) := by decide +kernel
theorem dX12_learn_31 : decode bX12_learn.2.1 31 = .ok (.iconst (-1), 1) := by decide +kernel
theorem dX12_learn_32 : decode bX12_learn.2.1 32 = .ok (.istore_n 3, 1) := by decide +kernel
theorem dX12_learn_33 : decode bX12_learn.2.1 33 = .ok (.iconst 0, 1) := by decide +kernel
theorem dX12_learn_34 : decode bX12_learn.2.1 34 = .ok (.istore 4, 2) := by decide +kernel
theorem dX12_learn_36 : decode bX12_learn.2.1 36 = .ok (.iload 4, 2) := by decide +kernel
theorem dX12_learn_38 : decode bX12_learn.2.1 38 = .ok (.aload_n 0, 1) := by decide +kernel
theorem dX12_learn_39 : decode bX12_learn.2.1 39 = .ok (.getfield 268, 3) := by decide +kernel
theorem dX12_learn_42 : decode bX12_learn.2.1 42 = .ok (.if_icmp .ge 53, 3) := by decide +kernel
theorem dX12_learn_45 : decode bX12_learn.2.1 45 = .ok (.aload_n 0, 1) := by decide +kernel
theorem dX12_learn_46 : decode bX12_learn.2.1 46 = .ok (.getfield 275, 3) := by decide +kernel
theorem dX12_learn_49 : decode bX12_learn.2.1 49 = .ok (.iload 4, 2) := by decide +kernel
theorem dX12_learn_51 : decode bX12_learn.2.1 51 = .ok (.invokestatic 271, 3) := by decide +kernel
theorem dX12_learn_54 : decode bX12_learn.2.1 54 = .ok (.ifCond .ne 33, 3) := by decide +kernel
theorem dX12_learn_57 : decode bX12_learn.2.1 57 = .ok (.aload_n 0, 1) := by decide +kernel
theorem dX12_learn_58 : decode bX12_learn.2.1 58 = .ok (.getfield 71, 3) := by decide +kernel
theorem dX12_learn_61 : decode bX12_learn.2.1 61 = .ok (.iload 4, 2) := by decide +kernel
theorem dX12_learn_63 : decode bX12_learn.2.1 63 = .ok (.iaload, 1) := by decide +kernel
theorem dX12_learn_64 : decode bX12_learn.2.1 64 = .ok (.iload_n 3, 1) := by decide +kernel
theorem dX12_learn_65 : decode bX12_learn.2.1 65 = .ok (.iconst (-1), 1) := by decide +kernel
theorem dX12_learn_66 : decode bX12_learn.2.1 66 = .ok (.if_icmp .ne 7, 3) := by decide +kernel
theorem dX12_learn_69 : decode bX12_learn.2.1 69 = .ok (.iconst 0, 1) := by decide +kernel
theorem dX12_learn_70 : decode bX12_learn.2.1 70 = .ok (.goto 9, 3) := by decide +kernel
theorem dX12_learn_73 : decode bX12_learn.2.1 73 = .ok (.aload_n 0, 1) := by decide +kernel
theorem dX12_learn_74 : decode bX12_learn.2.1 74 = .ok (.getfield 71, 3) := by decide +kernel
theorem dX12_learn_77 : decode bX12_learn.2.1 77 = .ok (.iload_n 3, 1) := by decide +kernel
theorem dX12_learn_78 : decode bX12_learn.2.1 78 = .ok (.iaload, 1) := by decide +kernel
theorem dX12_learn_79 : decode bX12_learn.2.1 79 = .ok (.if_icmp .le 8, 3) := by decide +kernel
theorem dX12_learn_82 : decode bX12_learn.2.1 82 = .ok (.iload 4, 2) := by decide +kernel
theorem dX12_learn_84 : decode bX12_learn.2.1 84 = .ok (.goto 4, 3) := by decide +kernel
theorem dX12_learn_87 : decode bX12_learn.2.1 87 = .ok (.iload_n 3, 1) := by decide +kernel
theorem dX12_learn_88 : decode bX12_learn.2.1 88 = .ok (.istore_n 3, 1) := by decide +kernel
theorem dX12_learn_89 : decode bX12_learn.2.1 89 = .ok (.iinc 4 1, 3) := by decide +kernel
theorem dX12_learn_92 : decode bX12_learn.2.1 92 = .ok (.goto (-56), 3) := by decide +kernel
theorem dX12_learn_95 : decode bX12_learn.2.1 95 = .ok (.aload_n 0, 1) := by decide +kernel
theorem dX12_learn_96 : decode bX12_learn.2.1 96 = .ok (.dup, 1) := by decide +kernel
theorem dX12_learn_97 : decode bX12_learn.2.1 97 = .ok (.getfield 275, 3) := by decide +kernel
theorem dX12_learn_100 : decode bX12_learn.2.1 100 = .ok (.iload_n 3, 1) := by decide +kernel
theorem dX12_learn_101 : decode bX12_learn.2.1 101 = .ok (.iconst (-1), 1) := by decide +kernel
theorem dX12_learn_102 : decode bX12_learn.2.1 102 = .ok (.if_icmp .ne 7, 3) := by decide +kernel
theorem dX12_learn_105 : decode bX12_learn.2.1 105 = .ok (.iconst 0, 1) := by decide +kernel
theorem dX12_learn_106 : decode bX12_learn.2.1 106 = .ok (.goto 6, 3) := by decide +kernel
theorem dX12_learn_109 : decode bX12_learn.2.1 109 = .ok (.iconst 1, 1) := by decide +kernel
theorem dX12_learn_110 : decode bX12_learn.2.1 110 = .ok (.iload_n 3, 1) := by decide +kernel
theorem dX12_learn_111 : decode bX12_learn.2.1 111 = .ok (.ishl, 1) := by decide +kernel
theorem dX12_learn_112 : decode bX12_learn.2.1 112 = .ok (.ior, 1) := by decide +kernel
theorem dX12_learn_113 : decode bX12_learn.2.1 113 = .ok (.putfield 275, 3) := by decide +kernel
theorem dX12_learn_116 : decode bX12_learn.2.1 116 = .ok (.iinc 2 1, 3) := by decide +kernel
theorem dX12_learn_119 : decode bX12_learn.2.1 119 = .ok (.goto (-93), 3) := by decide +kernel
theorem dX12_learn_122 : decode bX12_learn.2.1 122 = .ok (.aload_n 0, 1) := by decide +kernel
theorem dX12_learn_123 : decode bX12_learn.2.1 123 = .ok (.getfield 275, 3) := by decide +kernel
theorem dX12_learn_126 : decode bX12_learn.2.1 126 = .ok (.invokestatic 245, 3) := by decide +kernel
theorem dX12_learn_129 : decode bX12_learn.2.1 129 = .ok (.ireturn, 1) := by decide +kernel
theorem dX12_leapBy_0 : decode bX12_leapBy.2.1 0 = .ok (.iconst (-1), 1) := by decide +kernel
theorem dX12_leapBy_1 : decode bX12_leapBy.2.1 1 = .ok (.istore_n 2, 1) := by decide +kernel
theorem dX12_leapBy_2 : decode bX12_leapBy.2.1 2 = .ok (.iconst 0, 1) := by decide +kernel
theorem dX12_leapBy_3 : decode bX12_leapBy.2.1 3 = .ok (.istore_n 3, 1) := by decide +kernel
theorem dX12_leapBy_4 : decode bX12_leapBy.2.1 4 = .ok (.iconst 0, 1) := by decide +kernel
theorem dX12_leapBy_5 : decode bX12_leapBy.2.1 5 = .ok (.istore 4, 2) := by decide +kernel
theorem dX12_leapBy_7 : decode bX12_leapBy.2.1 7 = .ok (.iload 4, 2) := by decide +kernel
theorem dX12_leapBy_9 : decode bX12_leapBy.2.1 9 = .ok (.aload_n 0, 1) := by decide +kernel
theorem dX12_leapBy_10 : decode bX12_leapBy.2.1 10 = .ok (.getfield 268, 3) := by decide +kernel
theorem dX12_leapBy_13 : decode bX12_leapBy.2.1 13 = .ok (.if_icmp .ge 81, 3) := by decide +kernel
theorem dX12_leapBy_16 : decode bX12_leapBy.2.1 16 = .ok (.aload_n 0, 1) := by decide +kernel
theorem dX12_leapBy_17 : decode bX12_leapBy.2.1 17 = .ok (.iload 4, 2) := by decide +kernel
theorem dX12_leapBy_19 : decode bX12_leapBy.2.1 19 = .ok (.invokevirtual 326, 3) := by decide +kernel
theorem dX12_leapBy_22 : decode bX12_leapBy.2.1 22 = .ok (.istore 5, 2) := by decide +kernel
theorem dX12_leapBy_24 : decode bX12_leapBy.2.1 24 = .ok (.iload 5, 2) := by decide +kernel
theorem dX12_leapBy_26 : decode bX12_leapBy.2.1 26 = .ok (.iconst (-1), 1) := by decide +kernel
theorem dX12_leapBy_27 : decode bX12_leapBy.2.1 27 = .ok (.if_icmp .ne 7, 3) := by decide +kernel
theorem dX12_leapBy_30 : decode bX12_leapBy.2.1 30 = .ok (.iconst 0, 1) := by decide +kernel
theorem dX12_leapBy_31 : decode bX12_leapBy.2.1 31 = .ok (.goto 20, 3) := by decide +kernel
theorem dX12_leapBy_34 : decode bX12_leapBy.2.1 34 = .ok (.iload_n 1, 1) := by decide +kernel
theorem dX12_leapBy_35 : decode bX12_leapBy.2.1 35 = .ok (.ifCond .eq 11, 3) := by decide +kernel
theorem dX12_leapBy_38 : decode bX12_leapBy.2.1 38 = .ok (.iload 4, 2) := by decide +kernel
theorem dX12_leapBy_40 : decode bX12_leapBy.2.1 40 = .ok (.iload 5, 2) := by decide +kernel
theorem dX12_leapBy_42 : decode bX12_leapBy.2.1 42 = .ok (.isub, 1) := by decide +kernel
theorem dX12_leapBy_43 : decode bX12_leapBy.2.1 43 = .ok (.goto 8, 3) := by decide +kernel
theorem dX12_leapBy_46 : decode bX12_leapBy.2.1 46 = .ok (.iload 5, 2) := by decide +kernel
theorem dX12_leapBy_48 : decode bX12_leapBy.2.1 48 = .ok (.iload 4, 2) := by decide +kernel
theorem dX12_leapBy_50 : decode bX12_leapBy.2.1 50 = .ok (.isub, 1) := by decide +kernel
theorem dX12_leapBy_51 : decode bX12_leapBy.2.1 51 = .ok (.istore 6, 2) := by decide +kernel
theorem dX12_leapBy_53 : decode bX12_leapBy.2.1 53 = .ok (.iload 6, 2) := by decide +kernel
theorem dX12_leapBy_55 : decode bX12_leapBy.2.1 55 = .ok (.ifCond .le 33, 3) := by decide +kernel
theorem dX12_leapBy_58 : decode bX12_leapBy.2.1 58 = .ok (.iload_n 2, 1) := by decide +kernel
theorem dX12_leapBy_59 : decode bX12_leapBy.2.1 59 = .ok (.iconst (-1), 1) := by decide +kernel
theorem dX12_leapBy_60 : decode bX12_leapBy.2.1 60 = .ok (.if_icmp .eq 22, 3) := by decide +kernel
theorem dX12_leapBy_63 : decode bX12_leapBy.2.1 63 = .ok (.iload_n 1, 1) := by decide +kernel
theorem dX12_leapBy_64 : decode bX12_leapBy.2.1 64 = .ok (.ifCond .eq 12, 3) := by decide +kernel
theorem dX12_leapBy_67 : decode bX12_leapBy.2.1 67 = .ok (.iload 6, 2) := by decide +kernel
theorem dX12_leapBy_69 : decode bX12_leapBy.2.1 69 = .ok (.iload_n 3, 1) := by decide +kernel
theorem dX12_leapBy_70 : decode bX12_leapBy.2.1 70 = .ok (.if_icmp .ge 18, 3) := by decide +kernel
theorem dX12_leapBy_73 : decode bX12_leapBy.2.1 73 = .ok (.goto 9, 3) := by decide +kernel
theorem dX12_leapBy_76 : decode bX12_leapBy.2.1 76 = .ok (.iload 6, 2) := by decide +kernel
theorem dX12_leapBy_78 : decode bX12_leapBy.2.1 78 = .ok (.iload_n 3, 1) := by decide +kernel
theorem dX12_leapBy_79 : decode bX12_leapBy.2.1 79 = .ok (.if_icmp .le 9, 3) := by decide +kernel
theorem dX12_leapBy_82 : decode bX12_leapBy.2.1 82 = .ok (.iload 4, 2) := by decide +kernel
theorem dX12_leapBy_84 : decode bX12_leapBy.2.1 84 = .ok (.istore_n 2, 1) := by decide +kernel
theorem dX12_leapBy_85 : decode bX12_leapBy.2.1 85 = .ok (.iload 6, 2) := by decide +kernel
theorem dX12_leapBy_87 : decode bX12_leapBy.2.1 87 = .ok (.istore_n 3, 1) := by decide +kernel
theorem dX12_leapBy_88 : decode bX12_leapBy.2.1 88 = .ok (.iinc 4 1, 3) := by decide +kernel
theorem dX12_leapBy_91 : decode bX12_leapBy.2.1 91 = .ok (.goto (-84), 3) := by decide +kernel
theorem dX12_leapBy_94 : decode bX12_leapBy.2.1 94 = .ok (.iload_n 2, 1) := by decide +kernel
theorem dX12_leapBy_95 : decode bX12_leapBy.2.1 95 = .ok (.ireturn, 1) := by decide +kernel
theorem dX12_leapTold_0 : decode bX12_leapTold.2.1 0 = .ok (.aload_n 0, 1) := by decide +kernel
theorem dX12_leapTold_1 : decode bX12_leapTold.2.1 1 = .ok (.getfield 268, 3) := by decide +kernel
theorem dX12_leapTold_4 : decode bX12_leapTold.2.1 4 = .ok (.ifCond .eq 12, 3) := by decide +kernel
theorem dX12_leapTold_7 : decode bX12_leapTold.2.1 7 = .ok (.iload_n 2, 1) := by decide +kernel
theorem dX12_leapTold_8 : decode bX12_leapTold.2.1 8 = .ok (.iconst 0, 1) := by decide +kernel
theorem dX12_leapTold_9 : decode bX12_leapTold.2.1 9 = .ok (.iconst 1, 1) := by decide +kernel
theorem dX12_leapTold_10 : decode bX12_leapTold.2.1 10 = .ok (.invokestatic 229, 3) := by decide +kernel
theorem dX12_leapTold_13 : decode bX12_leapTold.2.1 13 = .ok (.ifCond .ne 5, 3) := by decide +kernel
theorem dX12_leapTold_16 : decode bX12_leapTold.2.1 16 = .ok (.iconst (-1), 1) := by decide +kernel
theorem dX12_leapTold_17 : decode bX12_leapTold.2.1 17 = .ok (.ireturn, 1) := by decide +kernel
theorem dX12_leapTold_18 : decode bX12_leapTold.2.1 18 = .ok (.aload_n 0, 1) := by decide +kernel
theorem dX12_leapTold_19 : decode bX12_leapTold.2.1 19 = .ok (.iload_n 1, 1) := by decide +kernel
theorem dX12_leapTold_20 : decode bX12_leapTold.2.1 20 = .ok (.invokevirtual 386, 3) := by decide +kernel
theorem dX12_leapTold_23 : decode bX12_leapTold.2.1 23 = .ok (.istore_n 3, 1) := by decide +kernel
theorem dX12_leapTold_24 : decode bX12_leapTold.2.1 24 = .ok (.iload_n 3, 1) := by decide +kernel
theorem dX12_leapTold_25 : decode bX12_leapTold.2.1 25 = .ok (.iconst (-1), 1) := by decide +kernel
theorem dX12_leapTold_26 : decode bX12_leapTold.2.1 26 = .ok (.if_icmp .eq 8, 3) := by decide +kernel
theorem dX12_leapTold_29 : decode bX12_leapTold.2.1 29 = .ok (.iload_n 2, 1) := by decide +kernel
theorem dX12_leapTold_30 : decode bX12_leapTold.2.1 30 = .ok (.iconst 1, 1) := by decide +kernel
theorem dX12_leapTold_31 : decode bX12_leapTold.2.1 31 = .ok (.if_icmp .ne 7, 3) := by decide +kernel
theorem dX12_leapTold_34 : decode bX12_leapTold.2.1 34 = .ok (.iload_n 3, 1) := by decide +kernel
theorem dX12_leapTold_35 : decode bX12_leapTold.2.1 35 = .ok (.goto 13, 3) := by decide +kernel
theorem dX12_leapTold_38 : decode bX12_leapTold.2.1 38 = .ok (.aload_n 0, 1) := by decide +kernel
theorem dX12_leapTold_39 : decode bX12_leapTold.2.1 39 = .ok (.iload_n 3, 1) := by decide +kernel
theorem dX12_leapTold_40 : decode bX12_leapTold.2.1 40 = .ok (.invokevirtual 326, 3) := by decide +kernel
theorem dX12_leapTold_43 : decode bX12_leapTold.2.1 43 = .ok (.iload_n 3, 1) := by decide +kernel
theorem dX12_leapTold_44 : decode bX12_leapTold.2.1 44 = .ok (.isub, 1) := by decide +kernel
theorem dX12_leapTold_45 : decode bX12_leapTold.2.1 45 = .ok (.invokestatic 390, 3) := by decide +kernel
theorem dX12_leapTold_48 : decode bX12_leapTold.2.1 48 = .ok (.ireturn, 1) := by decide +kernel
theorem dX12_loop_0 : decode bX12_loop.2.1 0 = .ok (.aload_n 0, 1) := by decide +kernel
theorem dX12_loop_1 : decode bX12_loop.2.1 1 = .ok (.iconst 1, 1) := by decide +kernel
theorem dX12_loop_2 : decode bX12_loop.2.1 2 = .ok (.iload_n 1, 1) := by decide +kernel
theorem dX12_loop_3 : decode bX12_loop.2.1 3 = .ok (.invokevirtual 393, 3) := by decide +kernel
theorem dX12_loop_6 : decode bX12_loop.2.1 6 = .ok (.ireturn, 1) := by decide +kernel
theorem dX12_hole_0 : decode bX12_hole.2.1 0 = .ok (.aload_n 0, 1) := by decide +kernel
theorem dX12_hole_1 : decode bX12_hole.2.1 1 = .ok (.iconst 0, 1) := by decide +kernel
theorem dX12_hole_2 : decode bX12_hole.2.1 2 = .ok (.iload_n 1, 1) := by decide +kernel
theorem dX12_hole_3 : decode bX12_hole.2.1 3 = .ok (.invokevirtual 393, 3) := by decide +kernel
theorem dX12_hole_6 : decode bX12_hole.2.1 6 = .ok (.ireturn, 1) := by decide +kernel
theorem dX12_leapsTo_0 : decode bX12_leapsTo.2.1 0 = .ok (.iconst 0, 1) := by decide +kernel
theorem dX12_leapsTo_1 : decode bX12_leapsTo.2.1 1 = .ok (.istore_n 2, 1) := by decide +kernel
theorem dX12_leapsTo_2 : decode bX12_leapsTo.2.1 2 = .ok (.iconst 0, 1) := by decide +kernel
theorem dX12_leapsTo_3 : decode bX12_leapsTo.2.1 3 = .ok (.istore_n 3, 1) := by decide +kernel
theorem dX12_leapsTo_4 : decode bX12_leapsTo.2.1 4 = .ok (.iload_n 3, 1) := by decide +kernel
theorem dX12_leapsTo_5 : decode bX12_leapsTo.2.1 5 = .ok (.aload_n 0, 1) := by decide +kernel
theorem dX12_leapsTo_6 : decode bX12_leapsTo.2.1 6 = .ok (.getfield 268, 3) := by decide +kernel
theorem dX12_leapsTo_9 : decode bX12_leapsTo.2.1 9 = .ok (.if_icmp .ge 28, 3) := by decide +kernel
theorem dX12_leapsTo_12 : decode bX12_leapsTo.2.1 12 = .ok (.iload_n 2, 1) := by decide +kernel
theorem dX12_leapsTo_13 : decode bX12_leapsTo.2.1 13 = .ok (.aload_n 0, 1) := by decide +kernel
theorem dX12_leapsTo_14 : decode bX12_leapsTo.2.1 14 = .ok (.iload_n 3, 1) := by decide +kernel
theorem dX12_leapsTo_15 : decode bX12_leapsTo.2.1 15 = .ok (.invokevirtual 326, 3) := by decide +kernel
theorem dX12_leapsTo_18 : decode bX12_leapsTo.2.1 18 = .ok (.iload_n 1, 1) := by decide +kernel
theorem dX12_leapsTo_19 : decode bX12_leapsTo.2.1 19 = .ok (.if_icmp .ne 9, 3) := by decide +kernel
theorem dX12_leapsTo_22 : decode bX12_leapsTo.2.1 22 = .ok (.iconst 1, 1) := by decide +kernel
theorem dX12_leapsTo_23 : decode bX12_leapsTo.2.1 23 = .ok (.iload_n 3, 1) := by decide +kernel
theorem dX12_leapsTo_24 : decode bX12_leapsTo.2.1 24 = .ok (.ishl, 1) := by decide +kernel
theorem dX12_leapsTo_25 : decode bX12_leapsTo.2.1 25 = .ok (.goto 4, 3) := by decide +kernel
theorem dX12_leapsTo_28 : decode bX12_leapsTo.2.1 28 = .ok (.iconst 0, 1) := by decide +kernel
theorem dX12_leapsTo_29 : decode bX12_leapsTo.2.1 29 = .ok (.ior, 1) := by decide +kernel
theorem dX12_leapsTo_30 : decode bX12_leapsTo.2.1 30 = .ok (.istore_n 2, 1) := by decide +kernel
theorem dX12_leapsTo_31 : decode bX12_leapsTo.2.1 31 = .ok (.iinc 3 1, 3) := by decide +kernel
theorem dX12_leapsTo_34 : decode bX12_leapsTo.2.1 34 = .ok (.goto (-30), 3) := by decide +kernel
theorem dX12_leapsTo_37 : decode bX12_leapsTo.2.1 37 = .ok (.iload_n 2, 1) := by decide +kernel
theorem dX12_leapsTo_38 : decode bX12_leapsTo.2.1 38 = .ok (.ireturn, 1) := by decide +kernel
theorem dX12_stops_0 : decode bX12_stops.2.1 0 = .ok (.aload_n 0, 1) := by decide +kernel
theorem dX12_stops_1 : decode bX12_stops.2.1 1 = .ok (.getfield 268, 3) := by decide +kernel
theorem dX12_stops_4 : decode bX12_stops.2.1 4 = .ok (.ifCond .ne 7, 3) := by decide +kernel
theorem dX12_stops_7 : decode bX12_stops.2.1 7 = .ok (.iconst (-1), 1) := by decide +kernel
theorem dX12_stops_8 : decode bX12_stops.2.1 8 = .ok (.goto 8, 3) := by decide +kernel
theorem dX12_stops_11 : decode bX12_stops.2.1 11 = .ok (.aload_n 0, 1) := by decide +kernel
theorem dX12_stops_12 : decode bX12_stops.2.1 12 = .ok (.iconst (-1), 1) := by decide +kernel
theorem dX12_stops_13 : decode bX12_stops.2.1 13 = .ok (.invokevirtual 397, 3) := by decide +kernel
theorem dX12_stops_16 : decode bX12_stops.2.1 16 = .ok (.ireturn, 1) := by decide +kernel
theorem dX12_from_0 : decode bX12_from.2.1 0 = .ok (.aload_n 0, 1) := by decide +kernel
theorem dX12_from_1 : decode bX12_from.2.1 1 = .ok (.iload_n 1, 1) := by decide +kernel
theorem dX12_from_2 : decode bX12_from.2.1 2 = .ok (.invokevirtual 317, 3) := by decide +kernel
theorem dX12_from_5 : decode bX12_from.2.1 5 = .ok (.ifCond .eq 11, 3) := by decide +kernel
theorem dX12_from_8 : decode bX12_from.2.1 8 = .ok (.aload_n 0, 1) := by decide +kernel
theorem dX12_from_9 : decode bX12_from.2.1 9 = .ok (.iload_n 1, 1) := by decide +kernel
theorem dX12_from_10 : decode bX12_from.2.1 10 = .ok (.invokevirtual 397, 3) := by decide +kernel
theorem dX12_from_13 : decode bX12_from.2.1 13 = .ok (.goto 4, 3) := by decide +kernel
theorem dX12_from_16 : decode bX12_from.2.1 16 = .ok (.iconst (-1), 1) := by decide +kernel
theorem dX12_from_17 : decode bX12_from.2.1 17 = .ok (.ireturn, 1) := by decide +kernel
theorem dX12_added_0 : decode bX12_added.2.1 0 = .ok (.ldc2_w 400, 3) := by decide +kernel
theorem dX12_added_3 : decode bX12_added.2.1 3 = .ok (.iload_n 0, 1) := by decide +kernel
theorem dX12_added_4 : decode bX12_added.2.1 4 = .ok (.i2l, 1) := by decide +kernel
theorem dX12_added_5 : decode bX12_added.2.1 5 = .ok (.iload_n 1, 1) := by decide +kernel
theorem dX12_added_6 : decode bX12_added.2.1 6 = .ok (.i2l, 1) := by decide +kernel
theorem dX12_added_7 : decode bX12_added.2.1 7 = .ok (.ladd, 1) := by decide +kernel
theorem dX12_added_8 : decode bX12_added.2.1 8 = .ok (.invokestatic 208, 3) := by decide +kernel
theorem dX12_added_11 : decode bX12_added.2.1 11 = .ok (.l2i, 1) := by decide +kernel
theorem dX12_added_12 : decode bX12_added.2.1 12 = .ok (.ireturn, 1) := by decide +kernel
theorem dX12_rows_0 : decode bX12_rows.2.1 0 = .ok (.aload_n 0, 1) := by decide +kernel
theorem dX12_rows_1 : decode bX12_rows.2.1 1 = .ok (.getfield 268, 3) := by decide +kernel
theorem dX12_rows_4 : decode bX12_rows.2.1 4 = .ok (.ifCond .eq 13, 3) := by decide +kernel
theorem dX12_rows_7 : decode bX12_rows.2.1 7 = .ok (.iload_n 1, 1) := by decide +kernel
theorem dX12_rows_8 : decode bX12_rows.2.1 8 = .ok (.iconst 0, 1) := by decide +kernel
theorem dX12_rows_9 : decode bX12_rows.2.1 9 = .ok (.bipush 6, 2) := by decide +kernel
theorem dX12_rows_11 : decode bX12_rows.2.1 11 = .ok (.invokestatic 229, 3) := by decide +kernel
theorem dX12_rows_14 : decode bX12_rows.2.1 14 = .ok (.ifCond .ne 5, 3) := by decide +kernel
theorem dX12_rows_17 : decode bX12_rows.2.1 17 = .ok (.iconst (-1), 1) := by decide +kernel
theorem dX12_rows_18 : decode bX12_rows.2.1 18 = .ok (.ireturn, 1) := by decide +kernel
theorem dX12_rows_19 : decode bX12_rows.2.1 19 = .ok (.iconst 0, 1) := by decide +kernel
theorem dX12_rows_20 : decode bX12_rows.2.1 20 = .ok (.istore_n 2, 1) := by decide +kernel
theorem dX12_rows_21 : decode bX12_rows.2.1 21 = .ok (.iload_n 2, 1) := by decide +kernel
theorem dX12_rows_22 : decode bX12_rows.2.1 22 = .ok (.aload_n 0, 1) := by decide +kernel
theorem dX12_rows_23 : decode bX12_rows.2.1 23 = .ok (.getfield 83, 3) := by decide +kernel
theorem dX12_rows_26 : decode bX12_rows.2.1 26 = .ok (.arraylength, 1) := by decide +kernel
theorem dX12_rows_27 : decode bX12_rows.2.1 27 = .ok (.if_icmp .ge 24, 3) := by decide +kernel
theorem dX12_rows_30 : decode bX12_rows.2.1 30 = .ok (.aload_n 0, 1) := by decide +kernel
theorem dX12_rows_31 : decode bX12_rows.2.1 31 = .ok (.getfield 83, 3) := by decide +kernel
theorem dX12_rows_34 : decode bX12_rows.2.1 34 = .ok (.iload_n 2, 1) := by decide +kernel
theorem dX12_rows_35 : decode bX12_rows.2.1 35 = .ok (.iload_n 2, 1) := by decide +kernel
theorem dX12_rows_36 : decode bX12_rows.2.1 36 = .ok (.ifCond .ne 7, 3) := by decide +kernel
theorem dX12_rows_39 : decode bX12_rows.2.1 39 = .ok (.iconst 1, 1) := by decide +kernel
theorem dX12_rows_40 : decode bX12_rows.2.1 40 = .ok (.goto 4, 3) := by decide +kernel
theorem dX12_rows_43 : decode bX12_rows.2.1 43 = .ok (.iconst 0, 1) := by decide +kernel
theorem dX12_rows_44 : decode bX12_rows.2.1 44 = .ok (.iastore, 1) := by decide +kernel
theorem dX12_rows_45 : decode bX12_rows.2.1 45 = .ok (.iinc 2 1, 3) := by decide +kernel
theorem dX12_rows_48 : decode bX12_rows.2.1 48 = .ok (.goto (-27), 3) := by decide +kernel
theorem dX12_rows_51 : decode bX12_rows.2.1 51 = .ok (.iconst 0, 1) := by decide +kernel
theorem dX12_rows_52 : decode bX12_rows.2.1 52 = .ok (.istore_n 2, 1) := by decide +kernel
theorem dX12_rows_53 : decode bX12_rows.2.1 53 = .ok (.iconst 0, 1) := by decide +kernel
theorem dX12_rows_54 : decode bX12_rows.2.1 54 = .ok (.istore_n 3, 1) := by decide +kernel
theorem dX12_rows_55 : decode bX12_rows.2.1 55 = .ok (.iload_n 3, 1) := by decide +kernel
theorem dX12_rows_56 : decode bX12_rows.2.1 56 = .ok (.sipush 200, 3) := by decide +kernel
theorem dX12_rows_59 : decode bX12_rows.2.1 59 = .ok (.if_icmp .ge 230, 3) := by decide +kernel
theorem dX12_rows_62 : decode bX12_rows.2.1 62 = .ok (.iconst 0, 1) := by decide +kernel
theorem dX12_rows_63 : decode bX12_rows.2.1 63 = .ok (.istore 4, 2) := by decide +kernel
theorem dX12_rows_65 : decode bX12_rows.2.1 65 = .ok (.iload 4, 2) := by decide +kernel
theorem dX12_rows_67 : decode bX12_rows.2.1 67 = .ok (.aload_n 0, 1) := by decide +kernel
theorem dX12_rows_68 : decode bX12_rows.2.1 68 = .ok (.getfield 86, 3) := by decide +kernel
theorem dX12_rows_71 : decode bX12_rows.2.1 71 = .ok (.arraylength, 1) := by decide +kernel
theorem dX12_rows_72 : decode bX12_rows.2.1 72 = .ok (.if_icmp .ge 17, 3) := by decide +kernel
theorem dX12_rows_75 : decode bX12_rows.2.1 75 = .ok (.aload_n 0, 1) := by decide +kernel
theorem dX12_rows_76 : decode bX12_rows.2.1 76 = .ok (.getfield 86, 3) := by decide +kernel
theorem dX12_rows_79 : decode bX12_rows.2.1 79 = .ok (.iload 4, 2) := by decide +kernel
theorem dX12_rows_81 : decode bX12_rows.2.1 81 = .ok (.iconst 0, 1) := by decide +kernel
theorem dX12_rows_82 : decode bX12_rows.2.1 82 = .ok (.iastore, 1) := by decide +kernel
theorem dX12_rows_83 : decode bX12_rows.2.1 83 = .ok (.iinc 4 1, 3) := by decide +kernel
theorem dX12_rows_86 : decode bX12_rows.2.1 86 = .ok (.goto (-21), 3) := by decide +kernel
theorem dX12_rows_89 : decode bX12_rows.2.1 89 = .ok (.iconst 0, 1) := by decide +kernel
theorem dX12_rows_90 : decode bX12_rows.2.1 90 = .ok (.istore 4, 2) := by decide +kernel
theorem dX12_rows_92 : decode bX12_rows.2.1 92 = .ok (.iload 4, 2) := by decide +kernel
theorem dX12_rows_94 : decode bX12_rows.2.1 94 = .ok (.aload_n 0, 1) := by decide +kernel
theorem dX12_rows_95 : decode bX12_rows.2.1 95 = .ok (.getfield 268, 3) := by decide +kernel
theorem dX12_rows_98 : decode bX12_rows.2.1 98 = .ok (.if_icmp .ge 133, 3) := by decide +kernel
theorem dX12_rows_101 : decode bX12_rows.2.1 101 = .ok (.aload_n 0, 1) := by decide +kernel
theorem dX12_rows_102 : decode bX12_rows.2.1 102 = .ok (.iload 4, 2) := by decide +kernel
theorem dX12_rows_104 : decode bX12_rows.2.1 104 = .ok (.invokevirtual 326, 3) := by decide +kernel
theorem dX12_rows_107 : decode bX12_rows.2.1 107 = .ok (.istore 5, 2) := by decide +kernel
theorem dX12_rows_109 : decode bX12_rows.2.1 109 = .ok (.iconst 0, 1) := by decide +kernel
theorem dX12_rows_110 : decode bX12_rows.2.1 110 = .ok (.istore 6, 2) := by decide +kernel
theorem dX12_rows_112 : decode bX12_rows.2.1 112 = .ok (.iload 6, 2) := by decide +kernel
theorem dX12_rows_114 : decode bX12_rows.2.1 114 = .ok (.iload_n 1, 1) := by decide +kernel
theorem dX12_rows_115 : decode bX12_rows.2.1 115 = .ok (.if_icmp .gt 110, 3) := by decide +kernel
theorem dX12_rows_118 : decode bX12_rows.2.1 118 = .ok (.aload_n 0, 1) := by decide +kernel
theorem dX12_rows_119 : decode bX12_rows.2.1 119 = .ok (.getfield 83, 3) := by decide +kernel
theorem dX12_rows_122 : decode bX12_rows.2.1 122 = .ok (.bipush 7, 2) := by decide +kernel
theorem dX12_rows_124 : decode bX12_rows.2.1 124 = .ok (.iload 4, 2) := by decide +kernel
theorem dX12_rows_126 : decode bX12_rows.2.1 126 = .ok (.imul, 1) := by decide +kernel
theorem dX12_rows_127 : decode bX12_rows.2.1 127 = .ok (.iload 6, 2) := by decide +kernel
theorem dX12_rows_129 : decode bX12_rows.2.1 129 = .ok (.iadd, 1) := by decide +kernel
theorem dX12_rows_130 : decode bX12_rows.2.1 130 = .ok (.iaload, 1) := by decide +kernel
theorem dX12_rows_131 : decode bX12_rows.2.1 131 = .ok (.istore 7, 2) := by decide +kernel
theorem dX12_rows_133 : decode bX12_rows.2.1 133 = .ok (.aload_n 0, 1) := by decide +kernel
theorem dX12_rows_134 : decode bX12_rows.2.1 134 = .ok (.getfield 86, 3) := by decide +kernel
theorem dX12_rows_137 : decode bX12_rows.2.1 137 = .ok (.bipush 7, 2) := by decide +kernel
theorem dX12_rows_139 : decode bX12_rows.2.1 139 = .ok (.iload 4, 2) := by decide +kernel
theorem dX12_rows_141 : decode bX12_rows.2.1 141 = .ok (.iconst 1, 1) := by decide +kernel
theorem dX12_rows_142 : decode bX12_rows.2.1 142 = .ok (.iadd, 1) := by decide +kernel
theorem dX12_rows_143 : decode bX12_rows.2.1 143 = .ok (.imul, 1) := by decide +kernel
theorem dX12_rows_144 : decode bX12_rows.2.1 144 = .ok (.iload 6, 2) := by decide +kernel
theorem dX12_rows_146 : decode bX12_rows.2.1 146 = .ok (.iadd, 1) := by decide +kernel
theorem dX12_rows_147 : decode bX12_rows.2.1 147 = .ok (.aload_n 0, 1) := by decide +kernel
theorem dX12_rows_148 : decode bX12_rows.2.1 148 = .ok (.getfield 86, 3) := by decide +kernel
theorem dX12_rows_151 : decode bX12_rows.2.1 151 = .ok (.bipush 7, 2) := by decide +kernel
theorem dX12_rows_153 : decode bX12_rows.2.1 153 = .ok (.iload 4, 2) := by decide +kernel
theorem dX12_rows_155 : decode bX12_rows.2.1 155 = .ok (.iconst 1, 1) := by decide +kernel
theorem dX12_rows_156 : decode bX12_rows.2.1 156 = .ok (.iadd, 1) := by decide +kernel
theorem dX12_rows_157 : decode bX12_rows.2.1 157 = .ok (.imul, 1) := by decide +kernel
theorem dX12_rows_158 : decode bX12_rows.2.1 158 = .ok (.iload 6, 2) := by decide +kernel
theorem dX12_rows_160 : decode bX12_rows.2.1 160 = .ok (.iadd, 1) := by decide +kernel
theorem dX12_rows_161 : decode bX12_rows.2.1 161 = .ok (.iaload, 1) := by decide +kernel
theorem dX12_rows_162 : decode bX12_rows.2.1 162 = .ok (.iload 7, 2) := by decide +kernel
theorem dX12_rows_164 : decode bX12_rows.2.1 164 = .ok (.invokestatic 402, 3) := by decide +kernel
theorem dX12_rows_167 : decode bX12_rows.2.1 167 = .ok (.iastore, 1) := by decide +kernel
theorem dX12_rows_168 : decode bX12_rows.2.1 168 = .ok (.iload 5, 2) := by decide +kernel
theorem dX12_rows_170 : decode bX12_rows.2.1 170 = .ok (.iconst (-1), 1) := by decide +kernel
theorem dX12_rows_171 : decode bX12_rows.2.1 171 = .ok (.if_icmp .eq 48, 3) := by decide +kernel
theorem dX12_rows_174 : decode bX12_rows.2.1 174 = .ok (.iload 6, 2) := by decide +kernel
theorem dX12_rows_176 : decode bX12_rows.2.1 176 = .ok (.iload_n 1, 1) := by decide +kernel
theorem dX12_rows_177 : decode bX12_rows.2.1 177 = .ok (.if_icmp .ge 42, 3) := by decide +kernel
theorem dX12_rows_180 : decode bX12_rows.2.1 180 = .ok (.aload_n 0, 1) := by decide +kernel
theorem dX12_rows_181 : decode bX12_rows.2.1 181 = .ok (.getfield 86, 3) := by decide +kernel
theorem dX12_rows_184 : decode bX12_rows.2.1 184 = .ok (.bipush 7, 2) := by decide +kernel
theorem dX12_rows_186 : decode bX12_rows.2.1 186 = .ok (.iload 5, 2) := by decide +kernel
theorem dX12_rows_188 : decode bX12_rows.2.1 188 = .ok (.iconst 1, 1) := by decide +kernel
theorem dX12_rows_189 : decode bX12_rows.2.1 189 = .ok (.iadd, 1) := by decide +kernel
theorem dX12_rows_190 : decode bX12_rows.2.1 190 = .ok (.imul, 1) := by decide +kernel
theorem dX12_rows_191 : decode bX12_rows.2.1 191 = .ok (.iload 6, 2) := by decide +kernel
theorem dX12_rows_193 : decode bX12_rows.2.1 193 = .ok (.iadd, 1) := by decide +kernel
theorem dX12_rows_194 : decode bX12_rows.2.1 194 = .ok (.iconst 1, 1) := by decide +kernel
theorem dX12_rows_195 : decode bX12_rows.2.1 195 = .ok (.iadd, 1) := by decide +kernel
theorem dX12_rows_196 : decode bX12_rows.2.1 196 = .ok (.aload_n 0, 1) := by decide +kernel
theorem dX12_rows_197 : decode bX12_rows.2.1 197 = .ok (.getfield 86, 3) := by decide +kernel
theorem dX12_rows_200 : decode bX12_rows.2.1 200 = .ok (.bipush 7, 2) := by decide +kernel
theorem dX12_rows_202 : decode bX12_rows.2.1 202 = .ok (.iload 5, 2) := by decide +kernel
theorem dX12_rows_204 : decode bX12_rows.2.1 204 = .ok (.iconst 1, 1) := by decide +kernel
theorem dX12_rows_205 : decode bX12_rows.2.1 205 = .ok (.iadd, 1) := by decide +kernel
theorem dX12_rows_206 : decode bX12_rows.2.1 206 = .ok (.imul, 1) := by decide +kernel
theorem dX12_rows_207 : decode bX12_rows.2.1 207 = .ok (.iload 6, 2) := by decide +kernel
theorem dX12_rows_209 : decode bX12_rows.2.1 209 = .ok (.iadd, 1) := by decide +kernel
theorem dX12_rows_210 : decode bX12_rows.2.1 210 = .ok (.iconst 1, 1) := by decide +kernel
theorem dX12_rows_211 : decode bX12_rows.2.1 211 = .ok (.iadd, 1) := by decide +kernel
theorem dX12_rows_212 : decode bX12_rows.2.1 212 = .ok (.iaload, 1) := by decide +kernel
theorem dX12_rows_213 : decode bX12_rows.2.1 213 = .ok (.iload 7, 2) := by decide +kernel
theorem dX12_rows_215 : decode bX12_rows.2.1 215 = .ok (.invokestatic 402, 3) := by decide +kernel
theorem dX12_rows_218 : decode bX12_rows.2.1 218 = .ok (.iastore, 1) := by decide +kernel
theorem dX12_rows_219 : decode bX12_rows.2.1 219 = .ok (.iinc 6 1, 3) := by decide +kernel
theorem dX12_rows_222 : decode bX12_rows.2.1 222 = .ok (.goto (-110), 3) := by decide +kernel
theorem dX12_rows_225 : decode bX12_rows.2.1 225 = .ok (.iinc 4 1, 3) := by decide +kernel
theorem dX12_rows_228 : decode bX12_rows.2.1 228 = .ok (.goto (-136), 3) := by decide +kernel
theorem dX12_rows_231 : decode bX12_rows.2.1 231 = .ok (.iconst 0, 1) := by decide +kernel
theorem dX12_rows_232 : decode bX12_rows.2.1 232 = .ok (.istore 4, 2) := by decide +kernel
theorem dX12_rows_234 : decode bX12_rows.2.1 234 = .ok (.iload 4, 2) := by decide +kernel
theorem dX12_rows_236 : decode bX12_rows.2.1 236 = .ok (.aload_n 0, 1) := by decide +kernel
theorem dX12_rows_237 : decode bX12_rows.2.1 237 = .ok (.getfield 83, 3) := by decide +kernel
theorem dX12_rows_240 : decode bX12_rows.2.1 240 = .ok (.arraylength, 1) := by decide +kernel
theorem dX12_rows_241 : decode bX12_rows.2.1 241 = .ok (.if_icmp .ge 23, 3) := by decide +kernel
theorem dX12_rows_244 : decode bX12_rows.2.1 244 = .ok (.aload_n 0, 1) := by decide +kernel
theorem dX12_rows_245 : decode bX12_rows.2.1 245 = .ok (.getfield 83, 3) := by decide +kernel
theorem dX12_rows_248 : decode bX12_rows.2.1 248 = .ok (.iload 4, 2) := by decide +kernel
theorem dX12_rows_250 : decode bX12_rows.2.1 250 = .ok (.aload_n 0, 1) := by decide +kernel
theorem dX12_rows_251 : decode bX12_rows.2.1 251 = .ok (.getfield 86, 3) := by decide +kernel
theorem dX12_rows_254 : decode bX12_rows.2.1 254 = .ok (.iload 4, 2) := by decide +kernel
theorem dX12_rows_256 : decode bX12_rows.2.1 256 = .ok (.iaload, 1) := by decide +kernel
theorem dX12_rows_257 : decode bX12_rows.2.1 257 = .ok (.iastore, 1) := by decide +kernel
theorem dX12_rows_258 : decode bX12_rows.2.1 258 = .ok (.iinc 4 1, 3) := by decide +kernel
theorem dX12_rows_261 : decode bX12_rows.2.1 261 = .ok (.goto (-27), 3) := by decide +kernel
theorem dX12_rows_264 : decode bX12_rows.2.1 264 = .ok (.iload_n 2, 1) := by decide +kernel
theorem dX12_rows_265 : decode bX12_rows.2.1 265 = .ok (.aload_n 0, 1) := by decide +kernel
theorem dX12_rows_266 : decode bX12_rows.2.1 266 = .ok (.getfield 83, 3) := by decide +kernel
theorem dX12_rows_269 : decode bX12_rows.2.1 269 = .ok (.bipush 7, 2) := by decide +kernel
theorem dX12_rows_271 : decode bX12_rows.2.1 271 = .ok (.aload_n 0, 1) := by decide +kernel
theorem dX12_rows_272 : decode bX12_rows.2.1 272 = .ok (.getfield 268, 3) := by decide +kernel
theorem dX12_rows_275 : decode bX12_rows.2.1 275 = .ok (.imul, 1) := by decide +kernel
theorem dX12_rows_276 : decode bX12_rows.2.1 276 = .ok (.iload_n 1, 1) := by decide +kernel
theorem dX12_rows_277 : decode bX12_rows.2.1 277 = .ok (.iadd, 1) := by decide +kernel
theorem dX12_rows_278 : decode bX12_rows.2.1 278 = .ok (.iaload, 1) := by decide +kernel
theorem dX12_rows_279 : decode bX12_rows.2.1 279 = .ok (.invokestatic 402, 3) := by decide +kernel
theorem dX12_rows_282 : decode bX12_rows.2.1 282 = .ok (.istore_n 2, 1) := by decide +kernel
theorem dX12_rows_283 : decode bX12_rows.2.1 283 = .ok (.iinc 3 1, 3) := by decide +kernel
theorem dX12_rows_286 : decode bX12_rows.2.1 286 = .ok (.goto (-231), 3) := by decide +kernel
theorem dX12_rows_289 : decode bX12_rows.2.1 289 = .ok (.iload_n 2, 1) := by decide +kernel
theorem dX12_rows_290 : decode bX12_rows.2.1 290 = .ok (.ireturn, 1) := by decide +kernel
theorem dX12_chanceOf_0 : decode bX12_chanceOf.2.1 0 = .ok (.iconst 0, 1) := by decide +kernel
theorem dX12_chanceOf_1 : decode bX12_chanceOf.2.1 1 = .ok (.istore_n 3, 1) := by decide +kernel
theorem dX12_chanceOf_2 : decode bX12_chanceOf.2.1 2 = .ok (.iload_n 3, 1) := by decide +kernel
theorem dX12_chanceOf_3 : decode bX12_chanceOf.2.1 3 = .ok (.aload_n 0, 1) := by decide +kernel
theorem dX12_chanceOf_4 : decode bX12_chanceOf.2.1 4 = .ok (.getfield 268, 3) := by decide +kernel
theorem dX12_chanceOf_7 : decode bX12_chanceOf.2.1 7 = .ok (.if_icmp .ge 76, 3) := by decide +kernel
theorem dX12_chanceOf_10 : decode bX12_chanceOf.2.1 10 = .ok (.aload_n 0, 1) := by decide +kernel
theorem dX12_chanceOf_11 : decode bX12_chanceOf.2.1 11 = .ok (.getfield 102, 3) := by decide +kernel
theorem dX12_chanceOf_14 : decode bX12_chanceOf.2.1 14 = .ok (.iload_n 3, 1) := by decide +kernel
theorem dX12_chanceOf_15 : decode bX12_chanceOf.2.1 15 = .ok (.aload_n 0, 1) := by decide +kernel
theorem dX12_chanceOf_16 : decode bX12_chanceOf.2.1 16 = .ok (.getfield 49, 3) := by decide +kernel
theorem dX12_chanceOf_19 : decode bX12_chanceOf.2.1 19 = .ok (.iload_n 3, 1) := by decide +kernel
theorem dX12_chanceOf_20 : decode bX12_chanceOf.2.1 20 = .ok (.iaload, 1) := by decide +kernel
theorem dX12_chanceOf_21 : decode bX12_chanceOf.2.1 21 = .ok (.iload_n 2, 1) := by decide +kernel
theorem dX12_chanceOf_22 : decode bX12_chanceOf.2.1 22 = .ok (.if_icmp .ne 7, 3) := by decide +kernel
theorem dX12_chanceOf_25 : decode bX12_chanceOf.2.1 25 = .ok (.iconst 0, 1) := by decide +kernel
theorem dX12_chanceOf_26 : decode bX12_chanceOf.2.1 26 = .ok (.goto 8, 3) := by decide +kernel
theorem dX12_chanceOf_29 : decode bX12_chanceOf.2.1 29 = .ok (.aload_n 0, 1) := by decide +kernel
theorem dX12_chanceOf_30 : decode bX12_chanceOf.2.1 30 = .ok (.iload_n 3, 1) := by decide +kernel
theorem dX12_chanceOf_31 : decode bX12_chanceOf.2.1 31 = .ok (.invokevirtual 320, 3) := by decide +kernel
theorem dX12_chanceOf_34 : decode bX12_chanceOf.2.1 34 = .ok (.iastore, 1) := by decide +kernel
theorem dX12_chanceOf_35 : decode bX12_chanceOf.2.1 35 = .ok (.aload_n 0, 1) := by decide +kernel
theorem dX12_chanceOf_36 : decode bX12_chanceOf.2.1 36 = .ok (.getfield 105, 3) := by decide +kernel
theorem dX12_chanceOf_39 : decode bX12_chanceOf.2.1 39 = .ok (.iload_n 3, 1) := by decide +kernel
theorem dX12_chanceOf_40 : decode bX12_chanceOf.2.1 40 = .ok (.aload_n 0, 1) := by decide +kernel
theorem dX12_chanceOf_41 : decode bX12_chanceOf.2.1 41 = .ok (.iload_n 3, 1) := by decide +kernel
theorem dX12_chanceOf_42 : decode bX12_chanceOf.2.1 42 = .ok (.invokevirtual 326, 3) := by decide +kernel
theorem dX12_chanceOf_45 : decode bX12_chanceOf.2.1 45 = .ok (.iastore, 1) := by decide +kernel
theorem dX12_chanceOf_46 : decode bX12_chanceOf.2.1 46 = .ok (.aload_n 0, 1) := by decide +kernel
theorem dX12_chanceOf_47 : decode bX12_chanceOf.2.1 47 = .ok (.getfield 89, 3) := by decide +kernel
theorem dX12_chanceOf_50 : decode bX12_chanceOf.2.1 50 = .ok (.iload_n 3, 1) := by decide +kernel
theorem dX12_chanceOf_51 : decode bX12_chanceOf.2.1 51 = .ok (.iload_n 3, 1) := by decide +kernel
theorem dX12_chanceOf_52 : decode bX12_chanceOf.2.1 52 = .ok (.ifCond .ne 9, 3) := by decide +kernel
theorem dX12_chanceOf_55 : decode bX12_chanceOf.2.1 55 = .ok (.ldc2_w 400, 3) := by decide +kernel
theorem dX12_chanceOf_58 : decode bX12_chanceOf.2.1 58 = .ok (.goto 4, 3) := by decide +kernel
theorem dX12_chanceOf_61 : decode bX12_chanceOf.2.1 61 = .ok (.lconst 0, 1) := by decide +kernel
theorem dX12_chanceOf_62 : decode bX12_chanceOf.2.1 62 = .ok (.lastore, 1) := by decide +kernel
theorem dX12_chanceOf_63 : decode bX12_chanceOf.2.1 63 = .ok (.aload_n 0, 1) := by decide +kernel
theorem dX12_chanceOf_64 : decode bX12_chanceOf.2.1 64 = .ok (.getfield 96, 3) := by decide +kernel
theorem dX12_chanceOf_67 : decode bX12_chanceOf.2.1 67 = .ok (.iload_n 3, 1) := by decide +kernel
theorem dX12_chanceOf_68 : decode bX12_chanceOf.2.1 68 = .ok (.lconst 0, 1) := by decide +kernel
theorem dX12_chanceOf_69 : decode bX12_chanceOf.2.1 69 = .ok (.lastore, 1) := by decide +kernel
theorem dX12_chanceOf_70 : decode bX12_chanceOf.2.1 70 = .ok (.aload_n 0, 1) := by decide +kernel
theorem dX12_chanceOf_71 : decode bX12_chanceOf.2.1 71 = .ok (.getfield 99, 3) := by decide +kernel
theorem dX12_chanceOf_74 : decode bX12_chanceOf.2.1 74 = .ok (.iload_n 3, 1) := by decide +kernel
theorem dX12_chanceOf_75 : decode bX12_chanceOf.2.1 75 = .ok (.lconst 0, 1) := by decide +kernel
theorem dX12_chanceOf_76 : decode bX12_chanceOf.2.1 76 = .ok (.lastore, 1) := by decide +kernel
theorem dX12_chanceOf_77 : decode bX12_chanceOf.2.1 77 = .ok (.iinc 3 1, 3) := by decide +kernel
theorem dX12_chanceOf_80 : decode bX12_chanceOf.2.1 80 = .ok (.goto (-78), 3) := by decide +kernel
theorem dX12_chanceOf_83 : decode bX12_chanceOf.2.1 83 = .ok (.lconst 0, 1) := by decide +kernel
theorem dX12_chanceOf_84 : decode bX12_chanceOf.2.1 84 = .ok (.lstore_n 3, 1) := by decide +kernel
theorem dX12_chanceOf_85 : decode bX12_chanceOf.2.1 85 = .ok (.iconst 0, 1) := by decide +kernel
theorem dX12_chanceOf_86 : decode bX12_chanceOf.2.1 86 = .ok (.istore 5, 2) := by decide +kernel
theorem dX12_chanceOf_88 : decode bX12_chanceOf.2.1 88 = .ok (.iload 5, 2) := by decide +kernel
theorem dX12_chanceOf_90 : decode bX12_chanceOf.2.1 90 = .ok (.iload_n 1, 1) := by decide +kernel
theorem dX12_chanceOf_91 : decode bX12_chanceOf.2.1 91 = .ok (.if_icmp .ge 103, 3) := by decide +kernel
theorem dX12_chanceOf_94 : decode bX12_chanceOf.2.1 94 = .ok (.iconst 0, 1) := by decide +kernel
theorem dX12_chanceOf_95 : decode bX12_chanceOf.2.1 95 = .ok (.istore 6, 2) := by decide +kernel
theorem dX12_chanceOf_97 : decode bX12_chanceOf.2.1 97 = .ok (.iload 6, 2) := by decide +kernel
theorem dX12_chanceOf_99 : decode bX12_chanceOf.2.1 99 = .ok (.aload_n 0, 1) := by decide +kernel
theorem dX12_chanceOf_100 : decode bX12_chanceOf.2.1 100 = .ok (.getfield 268, 3) := by decide +kernel
theorem dX12_chanceOf_103 : decode bX12_chanceOf.2.1 103 = .ok (.if_icmp .gt 17, 3) := by decide +kernel
theorem dX12_chanceOf_106 : decode bX12_chanceOf.2.1 106 = .ok (.aload_n 0, 1) := by decide +kernel
theorem dX12_chanceOf_107 : decode bX12_chanceOf.2.1 107 = .ok (.getfield 93, 3) := by decide +kernel
theorem dX12_chanceOf_110 : decode bX12_chanceOf.2.1 110 = .ok (.iload 6, 2) := by decide +kernel
theorem dX12_chanceOf_112 : decode bX12_chanceOf.2.1 112 = .ok (.lconst 0, 1) := by decide +kernel
theorem dX12_chanceOf_113 : decode bX12_chanceOf.2.1 113 = .ok (.lastore, 1) := by decide +kernel
theorem dX12_chanceOf_114 : decode bX12_chanceOf.2.1 114 = .ok (.iinc 6 1, 3) := by decide +kernel
theorem dX12_chanceOf_117 : decode bX12_chanceOf.2.1 117 = .ok (.goto (-20), 3) := by decide +kernel
theorem dX12_chanceOf_120 : decode bX12_chanceOf.2.1 120 = .ok (.iconst 0, 1) := by decide +kernel
theorem dX12_chanceOf_121 : decode bX12_chanceOf.2.1 121 = .ok (.istore 6, 2) := by decide +kernel
theorem dX12_chanceOf_123 : decode bX12_chanceOf.2.1 123 = .ok (.iload 6, 2) := by decide +kernel
theorem dX12_chanceOf_125 : decode bX12_chanceOf.2.1 125 = .ok (.aload_n 0, 1) := by decide +kernel
theorem dX12_chanceOf_126 : decode bX12_chanceOf.2.1 126 = .ok (.getfield 268, 3) := by decide +kernel
theorem dX12_chanceOf_129 : decode bX12_chanceOf.2.1 129 = .ok (.if_icmp .ge 15, 3) := by decide +kernel
theorem dX12_chanceOf_132 : decode bX12_chanceOf.2.1 132 = .ok (.aload_n 0, 1) := by decide +kernel
theorem dX12_chanceOf_133 : decode bX12_chanceOf.2.1 133 = .ok (.iload 6, 2) := by decide +kernel
theorem dX12_chanceOf_135 : decode bX12_chanceOf.2.1 135 = .ok (.invokevirtual 405, 3) := by decide +kernel
theorem dX12_chanceOf_138 : decode bX12_chanceOf.2.1 138 = .ok (.iinc 6 1, 3) := by decide +kernel
theorem dX12_chanceOf_141 : decode bX12_chanceOf.2.1 141 = .ok (.goto (-18), 3) := by decide +kernel
theorem dX12_chanceOf_144 : decode bX12_chanceOf.2.1 144 = .ok (.iconst 0, 1) := by decide +kernel
theorem dX12_chanceOf_145 : decode bX12_chanceOf.2.1 145 = .ok (.istore 6, 2) := by decide +kernel
theorem dX12_chanceOf_147 : decode bX12_chanceOf.2.1 147 = .ok (.iload 6, 2) := by decide +kernel
theorem dX12_chanceOf_149 : decode bX12_chanceOf.2.1 149 = .ok (.aload_n 0, 1) := by decide +kernel
theorem dX12_chanceOf_150 : decode bX12_chanceOf.2.1 150 = .ok (.getfield 268, 3) := by decide +kernel
theorem dX12_chanceOf_153 : decode bX12_chanceOf.2.1 153 = .ok (.if_icmp .ge 23, 3) := by decide +kernel
theorem dX12_chanceOf_156 : decode bX12_chanceOf.2.1 156 = .ok (.aload_n 0, 1) := by decide +kernel
theorem dX12_chanceOf_157 : decode bX12_chanceOf.2.1 157 = .ok (.getfield 89, 3) := by decide +kernel
theorem dX12_chanceOf_160 : decode bX12_chanceOf.2.1 160 = .ok (.iload 6, 2) := by decide +kernel
theorem dX12_chanceOf_162 : decode bX12_chanceOf.2.1 162 = .ok (.aload_n 0, 1) := by decide +kernel
theorem dX12_chanceOf_163 : decode bX12_chanceOf.2.1 163 = .ok (.getfield 93, 3) := by decide +kernel
theorem dX12_chanceOf_166 : decode bX12_chanceOf.2.1 166 = .ok (.iload 6, 2) := by decide +kernel
theorem dX12_chanceOf_168 : decode bX12_chanceOf.2.1 168 = .ok (.laload, 1) := by decide +kernel
theorem dX12_chanceOf_169 : decode bX12_chanceOf.2.1 169 = .ok (.lastore, 1) := by decide +kernel
theorem dX12_chanceOf_170 : decode bX12_chanceOf.2.1 170 = .ok (.iinc 6 1, 3) := by decide +kernel
theorem dX12_chanceOf_173 : decode bX12_chanceOf.2.1 173 = .ok (.goto (-26), 3) := by decide +kernel
theorem dX12_chanceOf_176 : decode bX12_chanceOf.2.1 176 = .ok (.lload_n 3, 1) := by decide +kernel
theorem dX12_chanceOf_177 : decode bX12_chanceOf.2.1 177 = .ok (.aload_n 0, 1) := by decide +kernel
theorem dX12_chanceOf_178 : decode bX12_chanceOf.2.1 178 = .ok (.getfield 93, 3) := by decide +kernel
theorem dX12_chanceOf_181 : decode bX12_chanceOf.2.1 181 = .ok (.aload_n 0, 1) := by decide +kernel
theorem dX12_chanceOf_182 : decode bX12_chanceOf.2.1 182 = .ok (.getfield 268, 3) := by decide +kernel
theorem dX12_chanceOf_185 : decode bX12_chanceOf.2.1 185 = .ok (.laload, 1) := by decide +kernel
theorem dX12_chanceOf_186 : decode bX12_chanceOf.2.1 186 = .ok (.ladd, 1) := by decide +kernel
theorem dX12_chanceOf_187 : decode bX12_chanceOf.2.1 187 = .ok (.lstore_n 3, 1) := by decide +kernel
theorem dX12_chanceOf_188 : decode bX12_chanceOf.2.1 188 = .ok (.iinc 5 1, 3) := by decide +kernel
theorem dX12_chanceOf_191 : decode bX12_chanceOf.2.1 191 = .ok (.goto (-103), 3) := by decide +kernel
theorem dX12_chanceOf_194 : decode bX12_chanceOf.2.1 194 = .ok (.lload_n 3, 1) := by decide +kernel
theorem dX12_chanceOf_195 : decode bX12_chanceOf.2.1 195 = .ok (.l2i, 1) := by decide +kernel
theorem dX12_chanceOf_196 : decode bX12_chanceOf.2.1 196 = .ok (.ireturn, 1) := by decide +kernel
theorem dX12_goOn_0 : decode bX12_goOn.2.1 0 = .ok (.aload_n 0, 1) := by decide +kernel
theorem dX12_goOn_1 : decode bX12_goOn.2.1 1 = .ok (.getfield 89, 3) := by decide +kernel
theorem dX12_goOn_4 : decode bX12_goOn.2.1 4 = .ok (.iload_n 1, 1) := by decide +kernel
theorem dX12_goOn_5 : decode bX12_goOn.2.1 5 = .ok (.laload, 1) := by decide +kernel
theorem dX12_goOn_6 : decode bX12_goOn.2.1 6 = .ok (.aload_n 0, 1) := by decide +kernel
theorem dX12_goOn_7 : decode bX12_goOn.2.1 7 = .ok (.getfield 102, 3) := by decide +kernel
theorem dX12_goOn_10 : decode bX12_goOn.2.1 10 = .ok (.iload_n 1, 1) := by decide +kernel
theorem dX12_goOn_11 : decode bX12_goOn.2.1 11 = .ok (.iaload, 1) := by decide +kernel
theorem dX12_goOn_12 : decode bX12_goOn.2.1 12 = .ok (.i2l, 1) := by decide +kernel
theorem dX12_goOn_13 : decode bX12_goOn.2.1 13 = .ok (.lmul, 1) := by decide +kernel
theorem dX12_goOn_14 : decode bX12_goOn.2.1 14 = .ok (.ldc2_w 365, 3) := by decide +kernel
theorem dX12_goOn_17 : decode bX12_goOn.2.1 17 = .ok (.ldiv, 1) := by decide +kernel
theorem dX12_goOn_18 : decode bX12_goOn.2.1 18 = .ok (.lstore_n 2, 1) := by decide +kernel
theorem dX12_goOn_19 : decode bX12_goOn.2.1 19 = .ok (.aload_n 0, 1) := by decide +kernel
theorem dX12_goOn_20 : decode bX12_goOn.2.1 20 = .ok (.getfield 275, 3) := by decide +kernel
theorem dX12_goOn_23 : decode bX12_goOn.2.1 23 = .ok (.iload_n 1, 1) := by decide +kernel
theorem dX12_goOn_24 : decode bX12_goOn.2.1 24 = .ok (.invokestatic 271, 3) := by decide +kernel
theorem dX12_goOn_27 : decode bX12_goOn.2.1 27 = .ok (.ifCond .eq 24, 3) := by decide +kernel
theorem dX12_goOn_30 : decode bX12_goOn.2.1 30 = .ok (.lload_n 2, 1) := by decide +kernel
theorem dX12_goOn_31 : decode bX12_goOn.2.1 31 = .ok (.aload_n 0, 1) := by decide +kernel
theorem dX12_goOn_32 : decode bX12_goOn.2.1 32 = .ok (.getfield 68, 3) := by decide +kernel
theorem dX12_goOn_35 : decode bX12_goOn.2.1 35 = .ok (.aload_n 0, 1) := by decide +kernel
theorem dX12_goOn_36 : decode bX12_goOn.2.1 36 = .ok (.getfield 49, 3) := by decide +kernel
theorem dX12_goOn_39 : decode bX12_goOn.2.1 39 = .ok (.iload_n 1, 1) := by decide +kernel
theorem dX12_goOn_40 : decode bX12_goOn.2.1 40 = .ok (.iaload, 1) := by decide +kernel
theorem dX12_goOn_41 : decode bX12_goOn.2.1 41 = .ok (.iaload, 1) := by decide +kernel
theorem dX12_goOn_42 : decode bX12_goOn.2.1 42 = .ok (.i2l, 1) := by decide +kernel
theorem dX12_goOn_43 : decode bX12_goOn.2.1 43 = .ok (.lmul, 1) := by decide +kernel
theorem dX12_goOn_44 : decode bX12_goOn.2.1 44 = .ok (.ldc2_w 365, 3) := by decide +kernel
theorem dX12_goOn_47 : decode bX12_goOn.2.1 47 = .ok (.ldiv, 1) := by decide +kernel
theorem dX12_goOn_48 : decode bX12_goOn.2.1 48 = .ok (.goto 4, 3) := by decide +kernel
theorem dX12_goOn_51 : decode bX12_goOn.2.1 51 = .ok (.lconst 0, 1) := by decide +kernel
theorem dX12_goOn_52 : decode bX12_goOn.2.1 52 = .ok (.lstore 4, 2) := by decide +kernel
theorem dX12_goOn_54 : decode bX12_goOn.2.1 54 = .ok (.lload_n 2, 1) := by decide +kernel
theorem dX12_goOn_55 : decode bX12_goOn.2.1 55 = .ok (.lload 4, 2) := by decide +kernel
theorem dX12_goOn_57 : decode bX12_goOn.2.1 57 = .ok (.lsub, 1) := by decide +kernel
theorem dX12_goOn_58 : decode bX12_goOn.2.1 58 = .ok (.lstore 6, 2) := by decide +kernel
theorem dX12_goOn_60 : decode bX12_goOn.2.1 60 = .ok (.aload_n 0, 1) := by decide +kernel
theorem dX12_goOn_61 : decode bX12_goOn.2.1 61 = .ok (.getfield 93, 3) := by decide +kernel
theorem dX12_goOn_64 : decode bX12_goOn.2.1 64 = .ok (.iload_n 1, 1) := by decide +kernel
theorem dX12_goOn_65 : decode bX12_goOn.2.1 65 = .ok (.iconst 1, 1) := by decide +kernel
theorem dX12_goOn_66 : decode bX12_goOn.2.1 66 = .ok (.iadd, 1) := by decide +kernel
theorem dX12_goOn_67 : decode bX12_goOn.2.1 67 = .ok (.dup2, 1) := by decide +kernel
theorem dX12_goOn_68 : decode bX12_goOn.2.1 68 = .ok (.laload, 1) := by decide +kernel
theorem dX12_goOn_69 : decode bX12_goOn.2.1 69 = .ok (.aload_n 0, 1) := by decide +kernel
theorem dX12_goOn_70 : decode bX12_goOn.2.1 70 = .ok (.getfield 89, 3) := by decide +kernel
theorem dX12_goOn_73 : decode bX12_goOn.2.1 73 = .ok (.iload_n 1, 1) := by decide +kernel
theorem dX12_goOn_74 : decode bX12_goOn.2.1 74 = .ok (.laload, 1) := by decide +kernel
theorem dX12_goOn_75 : decode bX12_goOn.2.1 75 = .ok (.lload 6, 2) := by decide +kernel
theorem dX12_goOn_77 : decode bX12_goOn.2.1 77 = .ok (.lsub, 1) := by decide +kernel
theorem dX12_goOn_78 : decode bX12_goOn.2.1 78 = .ok (.ladd, 1) := by decide +kernel
theorem dX12_goOn_79 : decode bX12_goOn.2.1 79 = .ok (.lastore, 1) := by decide +kernel
theorem dX12_goOn_80 : decode bX12_goOn.2.1 80 = .ok (.aload_n 0, 1) := by decide +kernel
theorem dX12_goOn_81 : decode bX12_goOn.2.1 81 = .ok (.getfield 99, 3) := by decide +kernel
theorem dX12_goOn_84 : decode bX12_goOn.2.1 84 = .ok (.iload_n 1, 1) := by decide +kernel
theorem dX12_goOn_85 : decode bX12_goOn.2.1 85 = .ok (.dup2, 1) := by decide +kernel
theorem dX12_goOn_86 : decode bX12_goOn.2.1 86 = .ok (.laload, 1) := by decide +kernel
theorem dX12_goOn_87 : decode bX12_goOn.2.1 87 = .ok (.aload_n 0, 1) := by decide +kernel
theorem dX12_goOn_88 : decode bX12_goOn.2.1 88 = .ok (.getfield 89, 3) := by decide +kernel
theorem dX12_goOn_91 : decode bX12_goOn.2.1 91 = .ok (.iload_n 1, 1) := by decide +kernel
theorem dX12_goOn_92 : decode bX12_goOn.2.1 92 = .ok (.laload, 1) := by decide +kernel
theorem dX12_goOn_93 : decode bX12_goOn.2.1 93 = .ok (.lload 6, 2) := by decide +kernel
theorem dX12_goOn_95 : decode bX12_goOn.2.1 95 = .ok (.lsub, 1) := by decide +kernel
theorem dX12_goOn_96 : decode bX12_goOn.2.1 96 = .ok (.ladd, 1) := by decide +kernel
theorem dX12_goOn_97 : decode bX12_goOn.2.1 97 = .ok (.lastore, 1) := by decide +kernel
theorem dX12_goOn_98 : decode bX12_goOn.2.1 98 = .ok (.aload_n 0, 1) := by decide +kernel
theorem dX12_goOn_99 : decode bX12_goOn.2.1 99 = .ok (.getfield 105, 3) := by decide +kernel
theorem dX12_goOn_102 : decode bX12_goOn.2.1 102 = .ok (.iload_n 1, 1) := by decide +kernel
theorem dX12_goOn_103 : decode bX12_goOn.2.1 103 = .ok (.iaload, 1) := by decide +kernel
theorem dX12_goOn_104 : decode bX12_goOn.2.1 104 = .ok (.iconst (-1), 1) := by decide +kernel
theorem dX12_goOn_105 : decode bX12_goOn.2.1 105 = .ok (.if_icmp .ne 17, 3) := by decide +kernel
theorem dX12_goOn_108 : decode bX12_goOn.2.1 108 = .ok (.aload_n 0, 1) := by decide +kernel
theorem dX12_goOn_109 : decode bX12_goOn.2.1 109 = .ok (.getfield 96, 3) := by decide +kernel
theorem dX12_goOn_112 : decode bX12_goOn.2.1 112 = .ok (.iload_n 1, 1) := by decide +kernel
theorem dX12_goOn_113 : decode bX12_goOn.2.1 113 = .ok (.dup2, 1) := by decide +kernel
theorem dX12_goOn_114 : decode bX12_goOn.2.1 114 = .ok (.laload, 1) := by decide +kernel
theorem dX12_goOn_115 : decode bX12_goOn.2.1 115 = .ok (.lload 6, 2) := by decide +kernel
theorem dX12_goOn_117 : decode bX12_goOn.2.1 117 = .ok (.ladd, 1) := by decide +kernel
theorem dX12_goOn_118 : decode bX12_goOn.2.1 118 = .ok (.lastore, 1) := by decide +kernel
theorem dX12_goOn_119 : decode bX12_goOn.2.1 119 = .ok (.goto 37, 3) := by decide +kernel
theorem dX12_goOn_122 : decode bX12_goOn.2.1 122 = .ok (.aload_n 0, 1) := by decide +kernel
theorem dX12_goOn_123 : decode bX12_goOn.2.1 123 = .ok (.getfield 93, 3) := by decide +kernel
theorem dX12_goOn_126 : decode bX12_goOn.2.1 126 = .ok (.aload_n 0, 1) := by decide +kernel
theorem dX12_goOn_127 : decode bX12_goOn.2.1 127 = .ok (.getfield 105, 3) := by decide +kernel
theorem dX12_goOn_130 : decode bX12_goOn.2.1 130 = .ok (.iload_n 1, 1) := by decide +kernel
theorem dX12_goOn_131 : decode bX12_goOn.2.1 131 = .ok (.iaload, 1) := by decide +kernel
theorem dX12_goOn_132 : decode bX12_goOn.2.1 132 = .ok (.iconst 1, 1) := by decide +kernel
theorem dX12_goOn_133 : decode bX12_goOn.2.1 133 = .ok (.iadd, 1) := by decide +kernel
theorem dX12_goOn_134 : decode bX12_goOn.2.1 134 = .ok (.dup2, 1) := by decide +kernel
theorem dX12_goOn_135 : decode bX12_goOn.2.1 135 = .ok (.laload, 1) := by decide +kernel
theorem dX12_goOn_136 : decode bX12_goOn.2.1 136 = .ok (.lload 6, 2) := by decide +kernel
theorem dX12_goOn_138 : decode bX12_goOn.2.1 138 = .ok (.ladd, 1) := by decide +kernel
theorem dX12_goOn_139 : decode bX12_goOn.2.1 139 = .ok (.lastore, 1) := by decide +kernel
theorem dX12_goOn_140 : decode bX12_goOn.2.1 140 = .ok (.aload_n 0, 1) := by decide +kernel
theorem dX12_goOn_141 : decode bX12_goOn.2.1 141 = .ok (.getfield 99, 3) := by decide +kernel
theorem dX12_goOn_144 : decode bX12_goOn.2.1 144 = .ok (.aload_n 0, 1) := by decide +kernel
theorem dX12_goOn_145 : decode bX12_goOn.2.1 145 = .ok (.getfield 105, 3) := by decide +kernel
theorem dX12_goOn_148 : decode bX12_goOn.2.1 148 = .ok (.iload_n 1, 1) := by decide +kernel
theorem dX12_goOn_149 : decode bX12_goOn.2.1 149 = .ok (.iaload, 1) := by decide +kernel
theorem dX12_goOn_150 : decode bX12_goOn.2.1 150 = .ok (.dup2, 1) := by decide +kernel
theorem dX12_goOn_151 : decode bX12_goOn.2.1 151 = .ok (.laload, 1) := by decide +kernel
theorem dX12_goOn_152 : decode bX12_goOn.2.1 152 = .ok (.lload 6, 2) := by decide +kernel
theorem dX12_goOn_154 : decode bX12_goOn.2.1 154 = .ok (.ladd, 1) := by decide +kernel
theorem dX12_goOn_155 : decode bX12_goOn.2.1 155 = .ok (.lastore, 1) := by decide +kernel
theorem dX12_goOn_156 : decode bX12_goOn.2.1 156 = .ok (.return_, 1) := by decide +kernel
theorem dX12_isMost_0 : decode bX12_isMost.2.1 0 = .ok (.aload_n 0, 1) := by decide +kernel
theorem dX12_isMost_1 : decode bX12_isMost.2.1 1 = .ok (.getfield 268, 3) := by decide +kernel
theorem dX12_isMost_4 : decode bX12_isMost.2.1 4 = .ok (.ifCond .le 18, 3) := by decide +kernel
theorem dX12_isMost_7 : decode bX12_isMost.2.1 7 = .ok (.iload_n 1, 1) := by decide +kernel
theorem dX12_isMost_8 : decode bX12_isMost.2.1 8 = .ok (.iconst 1, 1) := by decide +kernel
theorem dX12_isMost_9 : decode bX12_isMost.2.1 9 = .ok (.sipush 200, 3) := by decide +kernel
theorem dX12_isMost_12 : decode bX12_isMost.2.1 12 = .ok (.invokestatic 229, 3) := by decide +kernel
theorem dX12_isMost_15 : decode bX12_isMost.2.1 15 = .ok (.ifCond .eq 7, 3) := by decide +kernel
theorem dX12_isMost_18 : decode bX12_isMost.2.1 18 = .ok (.iconst 1, 1) := by decide +kernel
theorem dX12_isMost_19 : decode bX12_isMost.2.1 19 = .ok (.goto 4, 3) := by decide +kernel
theorem dX12_isMost_22 : decode bX12_isMost.2.1 22 = .ok (.iconst 0, 1) := by decide +kernel
theorem dX12_isMost_23 : decode bX12_isMost.2.1 23 = .ok (.ireturn, 1) := by decide +kernel
theorem dX12_chance_0 : decode bX12_chance.2.1 0 = .ok (.aload_n 0, 1) := by decide +kernel
theorem dX12_chance_1 : decode bX12_chance.2.1 1 = .ok (.iload_n 1, 1) := by decide +kernel
theorem dX12_chance_2 : decode bX12_chance.2.1 2 = .ok (.invokevirtual 408, 3) := by decide +kernel
theorem dX12_chance_5 : decode bX12_chance.2.1 5 = .ok (.ifCond .eq 12, 3) := by decide +kernel
theorem dX12_chance_8 : decode bX12_chance.2.1 8 = .ok (.aload_n 0, 1) := by decide +kernel
theorem dX12_chance_9 : decode bX12_chance.2.1 9 = .ok (.iload_n 1, 1) := by decide +kernel
theorem dX12_chance_10 : decode bX12_chance.2.1 10 = .ok (.iconst (-1), 1) := by decide +kernel
theorem dX12_chance_11 : decode bX12_chance.2.1 11 = .ok (.invokevirtual 411, 3) := by decide +kernel
theorem dX12_chance_14 : decode bX12_chance.2.1 14 = .ok (.goto 4, 3) := by decide +kernel
theorem dX12_chance_17 : decode bX12_chance.2.1 17 = .ok (.iconst (-1), 1) := by decide +kernel
theorem dX12_chance_18 : decode bX12_chance.2.1 18 = .ok (.ireturn, 1) := by decide +kernel
theorem dX12_mean_0 : decode bX12_mean.2.1 0 = .ok (.aload_n 0, 1) := by decide +kernel
theorem dX12_mean_1 : decode bX12_mean.2.1 1 = .ok (.iload_n 2, 1) := by decide +kernel
theorem dX12_mean_2 : decode bX12_mean.2.1 2 = .ok (.invokevirtual 408, 3) := by decide +kernel
theorem dX12_mean_5 : decode bX12_mean.2.1 5 = .ok (.ifCond .eq 11, 3) := by decide +kernel
theorem dX12_mean_8 : decode bX12_mean.2.1 8 = .ok (.aload_n 0, 1) := by decide +kernel
theorem dX12_mean_9 : decode bX12_mean.2.1 9 = .ok (.iload_n 1, 1) := by decide +kernel
theorem dX12_mean_10 : decode bX12_mean.2.1 10 = .ok (.invokevirtual 317, 3) := by decide +kernel
theorem dX12_mean_13 : decode bX12_mean.2.1 13 = .ok (.ifCond .ne 5, 3) := by decide +kernel
theorem dX12_mean_16 : decode bX12_mean.2.1 16 = .ok (.iconst (-1), 1) := by decide +kernel
theorem dX12_mean_17 : decode bX12_mean.2.1 17 = .ok (.ireturn, 1) := by decide +kernel
theorem dX12_mean_18 : decode bX12_mean.2.1 18 = .ok (.aload_n 0, 1) := by decide +kernel
theorem dX12_mean_19 : decode bX12_mean.2.1 19 = .ok (.iload_n 2, 1) := by decide +kernel
theorem dX12_mean_20 : decode bX12_mean.2.1 20 = .ok (.iconst (-1), 1) := by decide +kernel
theorem dX12_mean_21 : decode bX12_mean.2.1 21 = .ok (.invokevirtual 411, 3) := by decide +kernel
theorem dX12_mean_24 : decode bX12_mean.2.1 24 = .ok (.pop, 1) := by decide +kernel
theorem dX12_mean_25 : decode bX12_mean.2.1 25 = .ok (.aload_n 0, 1) := by decide +kernel
theorem dX12_mean_26 : decode bX12_mean.2.1 26 = .ok (.getfield 96, 3) := by decide +kernel
theorem dX12_mean_29 : decode bX12_mean.2.1 29 = .ok (.iload_n 1, 1) := by decide +kernel
theorem dX12_mean_30 : decode bX12_mean.2.1 30 = .ok (.laload, 1) := by decide +kernel
theorem dX12_mean_31 : decode bX12_mean.2.1 31 = .ok (.l2i, 1) := by decide +kernel
theorem dX12_mean_32 : decode bX12_mean.2.1 32 = .ok (.ireturn, 1) := by decide +kernel
theorem dX12_visits_0 : decode bX12_visits.2.1 0 = .ok (.aload_n 0, 1) := by decide +kernel
theorem dX12_visits_1 : decode bX12_visits.2.1 1 = .ok (.iload_n 2, 1) := by decide +kernel
theorem dX12_visits_2 : decode bX12_visits.2.1 2 = .ok (.invokevirtual 408, 3) := by decide +kernel
theorem dX12_visits_5 : decode bX12_visits.2.1 5 = .ok (.ifCond .eq 11, 3) := by decide +kernel
theorem dX12_visits_8 : decode bX12_visits.2.1 8 = .ok (.aload_n 0, 1) := by decide +kernel
theorem dX12_visits_9 : decode bX12_visits.2.1 9 = .ok (.iload_n 1, 1) := by decide +kernel
theorem dX12_visits_10 : decode bX12_visits.2.1 10 = .ok (.invokevirtual 317, 3) := by decide +kernel
theorem dX12_visits_13 : decode bX12_visits.2.1 13 = .ok (.ifCond .ne 7, 3) := by decide +kernel
theorem dX12_visits_16 : decode bX12_visits.2.1 16 = .ok (.ldc2_w 414, 3) := by decide +kernel
theorem dX12_visits_19 : decode bX12_visits.2.1 19 = .ok (.lreturn, 1) := by decide +kernel
theorem dX12_visits_20 : decode bX12_visits.2.1 20 = .ok (.aload_n 0, 1) := by decide +kernel
theorem dX12_visits_21 : decode bX12_visits.2.1 21 = .ok (.iload_n 2, 1) := by decide +kernel
theorem dX12_visits_22 : decode bX12_visits.2.1 22 = .ok (.iconst (-1), 1) := by decide +kernel
theorem dX12_visits_23 : decode bX12_visits.2.1 23 = .ok (.invokevirtual 411, 3) := by decide +kernel
theorem dX12_visits_26 : decode bX12_visits.2.1 26 = .ok (.pop, 1) := by decide +kernel
theorem dX12_visits_27 : decode bX12_visits.2.1 27 = .ok (.aload_n 0, 1) := by decide +kernel
theorem dX12_visits_28 : decode bX12_visits.2.1 28 = .ok (.getfield 99, 3) := by decide +kernel
theorem dX12_visits_31 : decode bX12_visits.2.1 31 = .ok (.iload_n 1, 1) := by decide +kernel
theorem dX12_visits_32 : decode bX12_visits.2.1 32 = .ok (.laload, 1) := by decide +kernel
theorem dX12_visits_33 : decode bX12_visits.2.1 33 = .ok (.lreturn, 1) := by decide +kernel
theorem dX12_could_0 : decode bX12_could.2.1 0 = .ok (.aload_n 0, 1) := by decide +kernel
theorem dX12_could_1 : decode bX12_could.2.1 1 = .ok (.iload_n 1, 1) := by decide +kernel
theorem dX12_could_2 : decode bX12_could.2.1 2 = .ok (.invokevirtual 317, 3) := by decide +kernel
theorem dX12_could_5 : decode bX12_could.2.1 5 = .ok (.ifCond .eq 26, 3) := by decide +kernel
theorem dX12_could_8 : decode bX12_could.2.1 8 = .ok (.aload_n 0, 1) := by decide +kernel
theorem dX12_could_9 : decode bX12_could.2.1 9 = .ok (.getfield 281, 3) := by decide +kernel
theorem dX12_could_12 : decode bX12_could.2.1 12 = .ok (.iload_n 1, 1) := by decide +kernel
theorem dX12_could_13 : decode bX12_could.2.1 13 = .ok (.invokestatic 271, 3) := by decide +kernel
theorem dX12_could_16 : decode bX12_could.2.1 16 = .ok (.ifCond .ne 15, 3) := by decide +kernel
theorem dX12_could_19 : decode bX12_could.2.1 19 = .ok (.aload_n 0, 1) := by decide +kernel
theorem dX12_could_20 : decode bX12_could.2.1 20 = .ok (.getfield 281, 3) := by decide +kernel
theorem dX12_could_23 : decode bX12_could.2.1 23 = .ok (.invokestatic 245, 3) := by decide +kernel
theorem dX12_could_26 : decode bX12_could.2.1 26 = .ok (.bipush 10, 2) := by decide +kernel
theorem dX12_could_28 : decode bX12_could.2.1 28 = .ok (.if_icmp .ne 5, 3) := by decide +kernel
theorem dX12_could_31 : decode bX12_could.2.1 31 = .ok (.iconst (-1), 1) := by decide +kernel
theorem dX12_could_32 : decode bX12_could.2.1 32 = .ok (.ireturn, 1) := by decide +kernel
theorem dX12_could_33 : decode bX12_could.2.1 33 = .ok (.aload_n 0, 1) := by decide +kernel
theorem dX12_could_34 : decode bX12_could.2.1 34 = .ok (.dup, 1) := by decide +kernel
theorem dX12_could_35 : decode bX12_could.2.1 35 = .ok (.getfield 281, 3) := by decide +kernel
theorem dX12_could_38 : decode bX12_could.2.1 38 = .ok (.iconst 1, 1) := by decide +kernel
theorem dX12_could_39 : decode bX12_could.2.1 39 = .ok (.iload_n 1, 1) := by decide +kernel
theorem dX12_could_40 : decode bX12_could.2.1 40 = .ok (.ishl, 1) := by decide +kernel
theorem dX12_could_41 : decode bX12_could.2.1 41 = .ok (.ior, 1) := by decide +kernel
theorem dX12_could_42 : decode bX12_could.2.1 42 = .ok (.putfield 281, 3) := by decide +kernel
theorem dX12_could_45 : decode bX12_could.2.1 45 = .ok (.aload_n 0, 1) := by decide +kernel
theorem dX12_could_46 : decode bX12_could.2.1 46 = .ok (.getfield 281, 3) := by decide +kernel
theorem dX12_could_49 : decode bX12_could.2.1 49 = .ok (.invokestatic 245, 3) := by decide +kernel
theorem dX12_could_52 : decode bX12_could.2.1 52 = .ok (.ireturn, 1) := by decide +kernel
theorem dX12_fewest_0 : decode bX12_fewest.2.1 0 = .ok (.aload_n 0, 1) := by decide +kernel
theorem dX12_fewest_1 : decode bX12_fewest.2.1 1 = .ok (.iload_n 2, 1) := by decide +kernel
theorem dX12_fewest_2 : decode bX12_fewest.2.1 2 = .ok (.invokevirtual 408, 3) := by decide +kernel
theorem dX12_fewest_5 : decode bX12_fewest.2.1 5 = .ok (.ifCond .eq 23, 3) := by decide +kernel
theorem dX12_fewest_8 : decode bX12_fewest.2.1 8 = .ok (.iload_n 1, 1) := by decide +kernel
theorem dX12_fewest_9 : decode bX12_fewest.2.1 9 = .ok (.iconst 0, 1) := by decide +kernel
theorem dX12_fewest_10 : decode bX12_fewest.2.1 10 = .ok (.ldc_w 416, 3) := by decide +kernel
theorem dX12_fewest_13 : decode bX12_fewest.2.1 13 = .ok (.invokestatic 229, 3) := by decide +kernel
theorem dX12_fewest_16 : decode bX12_fewest.2.1 16 = .ok (.ifCond .eq 12, 3) := by decide +kernel
theorem dX12_fewest_19 : decode bX12_fewest.2.1 19 = .ok (.iload_n 3, 1) := by decide +kernel
theorem dX12_fewest_20 : decode bX12_fewest.2.1 20 = .ok (.iconst 0, 1) := by decide +kernel
theorem dX12_fewest_21 : decode bX12_fewest.2.1 21 = .ok (.iconst 1, 1) := by decide +kernel
theorem dX12_fewest_22 : decode bX12_fewest.2.1 22 = .ok (.invokestatic 229, 3) := by decide +kernel
theorem dX12_fewest_25 : decode bX12_fewest.2.1 25 = .ok (.ifCond .ne 5, 3) := by decide +kernel
theorem dX12_fewest_28 : decode bX12_fewest.2.1 28 = .ok (.iconst (-1), 1) := by decide +kernel
theorem dX12_fewest_29 : decode bX12_fewest.2.1 29 = .ok (.ireturn, 1) := by decide +kernel
theorem dX12_fewest_30 : decode bX12_fewest.2.1 30 = .ok (.aload_n 0, 1) := by decide +kernel
theorem dX12_fewest_31 : decode bX12_fewest.2.1 31 = .ok (.getfield 275, 3) := by decide +kernel
theorem dX12_fewest_34 : decode bX12_fewest.2.1 34 = .ok (.istore 4, 2) := by decide +kernel
theorem dX12_fewest_36 : decode bX12_fewest.2.1 36 = .ok (.iconst (-1), 1) := by decide +kernel
theorem dX12_fewest_37 : decode bX12_fewest.2.1 37 = .ok (.istore 5, 2) := by decide +kernel
theorem dX12_fewest_39 : decode bX12_fewest.2.1 39 = .ok (.iconst 0, 1) := by decide +kernel
theorem dX12_fewest_40 : decode bX12_fewest.2.1 40 = .ok (.istore 6, 2) := by decide +kernel
theorem dX12_fewest_42 : decode bX12_fewest.2.1 42 = .ok (.iconst 1, 1) := by decide +kernel
theorem dX12_fewest_43 : decode bX12_fewest.2.1 43 = .ok (.istore 7, 2) := by decide +kernel
theorem dX12_fewest_45 : decode bX12_fewest.2.1 45 = .ok (.iload 7, 2) := by decide +kernel
theorem dX12_fewest_47 : decode bX12_fewest.2.1 47 = .ok (.ifCond .eq 86, 3) := by decide +kernel
theorem dX12_fewest_50 : decode bX12_fewest.2.1 50 = .ok (.iload 5, 2) := by decide +kernel
theorem dX12_fewest_52 : decode bX12_fewest.2.1 52 = .ok (.iconst (-1), 1) := by decide +kernel
theorem dX12_fewest_53 : decode bX12_fewest.2.1 53 = .ok (.if_icmp .eq 16, 3) := by decide +kernel
theorem dX12_fewest_56 : decode bX12_fewest.2.1 56 = .ok (.iload 6, 2) := by decide +kernel
theorem dX12_fewest_58 : decode bX12_fewest.2.1 58 = .ok (.invokestatic 245, 3) := by decide +kernel
theorem dX12_fewest_61 : decode bX12_fewest.2.1 61 = .ok (.iload 5, 2) := by decide +kernel
theorem dX12_fewest_63 : decode bX12_fewest.2.1 63 = .ok (.invokestatic 245, 3) := by decide +kernel
theorem dX12_fewest_66 : decode bX12_fewest.2.1 66 = .ok (.if_icmp .ge 38, 3) := by decide +kernel
theorem dX12_fewest_69 : decode bX12_fewest.2.1 69 = .ok (.aload_n 0, 1) := by decide +kernel
theorem dX12_fewest_70 : decode bX12_fewest.2.1 70 = .ok (.iload 4, 2) := by decide +kernel
theorem dX12_fewest_72 : decode bX12_fewest.2.1 72 = .ok (.aload_n 0, 1) := by decide +kernel
theorem dX12_fewest_73 : decode bX12_fewest.2.1 73 = .ok (.getfield 281, 3) := by decide +kernel
theorem dX12_fewest_76 : decode bX12_fewest.2.1 76 = .ok (.iconst (-1), 1) := by decide +kernel
theorem dX12_fewest_77 : decode bX12_fewest.2.1 77 = .ok (.ixor, 1) := by decide +kernel
theorem dX12_fewest_78 : decode bX12_fewest.2.1 78 = .ok (.iand, 1) := by decide +kernel
theorem dX12_fewest_79 : decode bX12_fewest.2.1 79 = .ok (.iload 6, 2) := by decide +kernel
theorem dX12_fewest_81 : decode bX12_fewest.2.1 81 = .ok (.ior, 1) := by decide +kernel
theorem dX12_fewest_82 : decode bX12_fewest.2.1 82 = .ok (.putfield 275, 3) := by decide +kernel
theorem dX12_fewest_85 : decode bX12_fewest.2.1 85 = .ok (.aload_n 0, 1) := by decide +kernel
theorem dX12_fewest_86 : decode bX12_fewest.2.1 86 = .ok (.iload_n 2, 1) := by decide +kernel
theorem dX12_fewest_87 : decode bX12_fewest.2.1 87 = .ok (.iconst (-1), 1) := by decide +kernel
theorem dX12_fewest_88 : decode bX12_fewest.2.1 88 = .ok (.invokevirtual 411, 3) := by decide +kernel
theorem dX12_fewest_91 : decode bX12_fewest.2.1 91 = .ok (.iload_n 1, 1) := by decide +kernel
theorem dX12_fewest_92 : decode bX12_fewest.2.1 92 = .ok (.if_icmp .lt 8, 3) := by decide +kernel
theorem dX12_fewest_95 : decode bX12_fewest.2.1 95 = .ok (.iload 6, 2) := by decide +kernel
theorem dX12_fewest_97 : decode bX12_fewest.2.1 97 = .ok (.goto 5, 3) := by decide +kernel
theorem dX12_fewest_100 : decode bX12_fewest.2.1 100 = .ok (.iload 5, 2) := by decide +kernel
theorem dX12_fewest_102 : decode bX12_fewest.2.1 102 = .ok (.istore 5, 2) := by decide +kernel
theorem dX12_fewest_104 : decode bX12_fewest.2.1 104 = .ok (.iload 6, 2) := by decide +kernel
theorem dX12_fewest_106 : decode bX12_fewest.2.1 106 = .ok (.aload_n 0, 1) := by decide +kernel
theorem dX12_fewest_107 : decode bX12_fewest.2.1 107 = .ok (.getfield 281, 3) := by decide +kernel
theorem dX12_fewest_110 : decode bX12_fewest.2.1 110 = .ok (.isub, 1) := by decide +kernel
theorem dX12_fewest_111 : decode bX12_fewest.2.1 111 = .ok (.aload_n 0, 1) := by decide +kernel
theorem dX12_fewest_112 : decode bX12_fewest.2.1 112 = .ok (.getfield 281, 3) := by decide +kernel
theorem dX12_fewest_115 : decode bX12_fewest.2.1 115 = .ok (.iand, 1) := by decide +kernel
theorem dX12_fewest_116 : decode bX12_fewest.2.1 116 = .ok (.istore 6, 2) := by decide +kernel
theorem dX12_fewest_118 : decode bX12_fewest.2.1 118 = .ok (.iload 6, 2) := by decide +kernel
theorem dX12_fewest_120 : decode bX12_fewest.2.1 120 = .ok (.ifCond .eq 7, 3) := by decide +kernel
theorem dX12_fewest_123 : decode bX12_fewest.2.1 123 = .ok (.iconst 1, 1) := by decide +kernel
theorem dX12_fewest_124 : decode bX12_fewest.2.1 124 = .ok (.goto 4, 3) := by decide +kernel
theorem dX12_fewest_127 : decode bX12_fewest.2.1 127 = .ok (.iconst 0, 1) := by decide +kernel
theorem dX12_fewest_128 : decode bX12_fewest.2.1 128 = .ok (.istore 7, 2) := by decide +kernel
theorem dX12_fewest_130 : decode bX12_fewest.2.1 130 = .ok (.goto (-85), 3) := by decide +kernel
theorem dX12_fewest_133 : decode bX12_fewest.2.1 133 = .ok (.aload_n 0, 1) := by decide +kernel
theorem dX12_fewest_134 : decode bX12_fewest.2.1 134 = .ok (.iload 4, 2) := by decide +kernel
theorem dX12_fewest_136 : decode bX12_fewest.2.1 136 = .ok (.putfield 275, 3) := by decide +kernel
theorem dX12_fewest_139 : decode bX12_fewest.2.1 139 = .ok (.iload 5, 2) := by decide +kernel
theorem dX12_fewest_141 : decode bX12_fewest.2.1 141 = .ok (.iconst (-1), 1) := by decide +kernel
theorem dX12_fewest_142 : decode bX12_fewest.2.1 142 = .ok (.if_icmp .eq 8, 3) := by decide +kernel
theorem dX12_fewest_145 : decode bX12_fewest.2.1 145 = .ok (.iload_n 3, 1) := by decide +kernel
theorem dX12_fewest_146 : decode bX12_fewest.2.1 146 = .ok (.iconst 1, 1) := by decide +kernel
theorem dX12_fewest_147 : decode bX12_fewest.2.1 147 = .ok (.if_icmp .ne 8, 3) := by decide +kernel
theorem dX12_fewest_150 : decode bX12_fewest.2.1 150 = .ok (.iload 5, 2) := by decide +kernel
theorem dX12_fewest_152 : decode bX12_fewest.2.1 152 = .ok (.goto 8, 3) := by decide +kernel
theorem dX12_fewest_155 : decode bX12_fewest.2.1 155 = .ok (.iload 5, 2) := by decide +kernel
theorem dX12_fewest_157 : decode bX12_fewest.2.1 157 = .ok (.invokestatic 245, 3) := by decide +kernel
theorem dX12_fewest_160 : decode bX12_fewest.2.1 160 = .ok (.ireturn, 1) := by decide +kernel
theorem dX12_actors_0 : decode bX12_actors.2.1 0 = .ok (.iconst 0, 1) := by decide +kernel
theorem dX12_actors_1 : decode bX12_actors.2.1 1 = .ok (.istore_n 1, 1) := by decide +kernel
theorem dX12_actors_2 : decode bX12_actors.2.1 2 = .ok (.iconst 0, 1) := by decide +kernel
theorem dX12_actors_3 : decode bX12_actors.2.1 3 = .ok (.istore_n 2, 1) := by decide +kernel
theorem dX12_actors_4 : decode bX12_actors.2.1 4 = .ok (.iload_n 2, 1) := by decide +kernel
theorem dX12_actors_5 : decode bX12_actors.2.1 5 = .ok (.aload_n 0, 1) := by decide +kernel
theorem dX12_actors_6 : decode bX12_actors.2.1 6 = .ok (.getfield 268, 3) := by decide +kernel
theorem dX12_actors_9 : decode bX12_actors.2.1 9 = .ok (.if_icmp .ge 20, 3) := by decide +kernel
theorem dX12_actors_12 : decode bX12_actors.2.1 12 = .ok (.iload_n 1, 1) := by decide +kernel
theorem dX12_actors_13 : decode bX12_actors.2.1 13 = .ok (.iconst 1, 1) := by decide +kernel
theorem dX12_actors_14 : decode bX12_actors.2.1 14 = .ok (.aload_n 0, 1) := by decide +kernel
theorem dX12_actors_15 : decode bX12_actors.2.1 15 = .ok (.getfield 49, 3) := by decide +kernel
theorem dX12_actors_18 : decode bX12_actors.2.1 18 = .ok (.iload_n 2, 1) := by decide +kernel
theorem dX12_actors_19 : decode bX12_actors.2.1 19 = .ok (.iaload, 1) := by decide +kernel
theorem dX12_actors_20 : decode bX12_actors.2.1 20 = .ok (.ishl, 1) := by decide +kernel
theorem dX12_actors_21 : decode bX12_actors.2.1 21 = .ok (.ior, 1) := by decide +kernel
theorem dX12_actors_22 : decode bX12_actors.2.1 22 = .ok (.istore_n 1, 1) := by decide +kernel
theorem dX12_actors_23 : decode bX12_actors.2.1 23 = .ok (.iinc 2 1, 3) := by decide +kernel
theorem dX12_actors_26 : decode bX12_actors.2.1 26 = .ok (.goto (-22), 3) := by decide +kernel
theorem dX12_actors_29 : decode bX12_actors.2.1 29 = .ok (.iload_n 1, 1) := by decide +kernel
theorem dX12_actors_30 : decode bX12_actors.2.1 30 = .ok (.ireturn, 1) := by decide +kernel
theorem dX12_understudy_0 : decode bX12_understudy.2.1 0 = .ok (.aload_n 0, 1) := by decide +kernel
theorem dX12_understudy_1 : decode bX12_understudy.2.1 1 = .ok (.iload_n 1, 1) := by decide +kernel
theorem dX12_understudy_2 : decode bX12_understudy.2.1 2 = .ok (.invokevirtual 408, 3) := by decide +kernel
theorem dX12_understudy_5 : decode bX12_understudy.2.1 5 = .ok (.ifCond .eq 12, 3) := by decide +kernel
theorem dX12_understudy_8 : decode bX12_understudy.2.1 8 = .ok (.iload_n 2, 1) := by decide +kernel
theorem dX12_understudy_9 : decode bX12_understudy.2.1 9 = .ok (.iconst 0, 1) := by decide +kernel
theorem dX12_understudy_10 : decode bX12_understudy.2.1 10 = .ok (.iconst 1, 1) := by decide +kernel
theorem dX12_understudy_11 : decode bX12_understudy.2.1 11 = .ok (.invokestatic 229, 3) := by decide +kernel
theorem dX12_understudy_14 : decode bX12_understudy.2.1 14 = .ok (.ifCond .ne 5, 3) := by decide +kernel
theorem dX12_understudy_17 : decode bX12_understudy.2.1 17 = .ok (.iconst (-1), 1) := by decide +kernel
theorem dX12_understudy_18 : decode bX12_understudy.2.1 18 = .ok (.ireturn, 1) := by decide +kernel
theorem dX12_understudy_19 : decode bX12_understudy.2.1 19 = .ok (.iconst (-1), 1) := by decide +kernel
theorem dX12_understudy_20 : decode bX12_understudy.2.1 20 = .ok (.istore_n 3, 1) := by decide +kernel
theorem dX12_understudy_21 : decode bX12_understudy.2.1 21 = .ok (.iconst 0, 1) := by decide +kernel
theorem dX12_understudy_22 : decode bX12_understudy.2.1 22 = .ok (.istore 4, 2) := by decide +kernel
theorem dX12_understudy_24 : decode bX12_understudy.2.1 24 = .ok (.iconst 0, 1) := by decide +kernel
theorem dX12_understudy_25 : decode bX12_understudy.2.1 25 = .ok (.istore 5, 2) := by decide +kernel
theorem dX12_understudy_27 : decode bX12_understudy.2.1 27 = .ok (.iload 5, 2) := by decide +kernel
theorem dX12_understudy_29 : decode bX12_understudy.2.1 29 = .ok (.bipush 8, 2) := by decide +kernel
theorem dX12_understudy_31 : decode bX12_understudy.2.1 31 = .ok (.if_icmp .ge 49, 3) := by decide +kernel
theorem dX12_understudy_34 : decode bX12_understudy.2.1 34 = .ok (.aload_n 0, 1) := by decide +kernel
theorem dX12_understudy_35 : decode bX12_understudy.2.1 35 = .ok (.invokevirtual 417, 3) := by decide +kernel
theorem dX12_understudy_38 : decode bX12_understudy.2.1 38 = .ok (.iload 5, 2) := by decide +kernel
theorem dX12_understudy_40 : decode bX12_understudy.2.1 40 = .ok (.invokestatic 271, 3) := by decide +kernel
theorem dX12_understudy_43 : decode bX12_understudy.2.1 43 = .ok (.ifCond .eq 31, 3) := by decide +kernel
theorem dX12_understudy_46 : decode bX12_understudy.2.1 46 = .ok (.aload_n 0, 1) := by decide +kernel
theorem dX12_understudy_47 : decode bX12_understudy.2.1 47 = .ok (.iload_n 1, 1) := by decide +kernel
theorem dX12_understudy_48 : decode bX12_understudy.2.1 48 = .ok (.iload 5, 2) := by decide +kernel
theorem dX12_understudy_50 : decode bX12_understudy.2.1 50 = .ok (.invokevirtual 411, 3) := by decide +kernel
theorem dX12_understudy_53 : decode bX12_understudy.2.1 53 = .ok (.istore 6, 2) := by decide +kernel
theorem dX12_understudy_55 : decode bX12_understudy.2.1 55 = .ok (.iload_n 3, 1) := by decide +kernel
theorem dX12_understudy_56 : decode bX12_understudy.2.1 56 = .ok (.iconst (-1), 1) := by decide +kernel
theorem dX12_understudy_57 : decode bX12_understudy.2.1 57 = .ok (.if_icmp .eq 10, 3) := by decide +kernel
theorem dX12_understudy_60 : decode bX12_understudy.2.1 60 = .ok (.iload 6, 2) := by decide +kernel
theorem dX12_understudy_62 : decode bX12_understudy.2.1 62 = .ok (.iload 4, 2) := by decide +kernel
theorem dX12_understudy_64 : decode bX12_understudy.2.1 64 = .ok (.if_icmp .le 10, 3) := by decide +kernel
theorem dX12_understudy_67 : decode bX12_understudy.2.1 67 = .ok (.iload 5, 2) := by decide +kernel
theorem dX12_understudy_69 : decode bX12_understudy.2.1 69 = .ok (.istore_n 3, 1) := by decide +kernel
theorem dX12_understudy_70 : decode bX12_understudy.2.1 70 = .ok (.iload 6, 2) := by decide +kernel
theorem dX12_understudy_72 : decode bX12_understudy.2.1 72 = .ok (.istore 4, 2) := by decide +kernel
theorem dX12_understudy_74 : decode bX12_understudy.2.1 74 = .ok (.iinc 5 1, 3) := by decide +kernel
theorem dX12_understudy_77 : decode bX12_understudy.2.1 77 = .ok (.goto (-50), 3) := by decide +kernel
theorem dX12_understudy_80 : decode bX12_understudy.2.1 80 = .ok (.iload_n 2, 1) := by decide +kernel
theorem dX12_understudy_81 : decode bX12_understudy.2.1 81 = .ok (.ifCond .ne 7, 3) := by decide +kernel
theorem dX12_understudy_84 : decode bX12_understudy.2.1 84 = .ok (.iload_n 3, 1) := by decide +kernel
theorem dX12_understudy_85 : decode bX12_understudy.2.1 85 = .ok (.goto 5, 3) := by decide +kernel
theorem dX12_understudy_88 : decode bX12_understudy.2.1 88 = .ok (.iload 4, 2) := by decide +kernel
theorem dX12_understudy_90 : decode bX12_understudy.2.1 90 = .ok (.ireturn, 1) := by decide +kernel
theorem dX12_worst_0 : decode bX12_worst.2.1 0 = .ok (.aload_n 0, 1) := by decide +kernel
theorem dX12_worst_1 : decode bX12_worst.2.1 1 = .ok (.iload_n 1, 1) := by decide +kernel
theorem dX12_worst_2 : decode bX12_worst.2.1 2 = .ok (.invokevirtual 408, 3) := by decide +kernel
theorem dX12_worst_5 : decode bX12_worst.2.1 5 = .ok (.ifCond .ne 5, 3) := by decide +kernel
theorem dX12_worst_8 : decode bX12_worst.2.1 8 = .ok (.iconst (-1), 1) := by decide +kernel
theorem dX12_worst_9 : decode bX12_worst.2.1 9 = .ok (.ireturn, 1) := by decide +kernel
theorem dX12_worst_10 : decode bX12_worst.2.1 10 = .ok (.iconst (-1), 1) := by decide +kernel
theorem dX12_worst_11 : decode bX12_worst.2.1 11 = .ok (.istore_n 2, 1) := by decide +kernel
theorem dX12_worst_12 : decode bX12_worst.2.1 12 = .ok (.iconst 0, 1) := by decide +kernel
theorem dX12_worst_13 : decode bX12_worst.2.1 13 = .ok (.istore_n 3, 1) := by decide +kernel
theorem dX12_worst_14 : decode bX12_worst.2.1 14 = .ok (.iconst 0, 1) := by decide +kernel
theorem dX12_worst_15 : decode bX12_worst.2.1 15 = .ok (.istore 4, 2) := by decide +kernel
theorem dX12_worst_17 : decode bX12_worst.2.1 17 = .ok (.iload 4, 2) := by decide +kernel
theorem dX12_worst_19 : decode bX12_worst.2.1 19 = .ok (.aload_n 0, 1) := by decide +kernel
theorem dX12_worst_20 : decode bX12_worst.2.1 20 = .ok (.getfield 268, 3) := by decide +kernel
theorem dX12_worst_23 : decode bX12_worst.2.1 23 = .ok (.if_icmp .ge 72, 3) := by decide +kernel
theorem dX12_worst_26 : decode bX12_worst.2.1 26 = .ok (.aload_n 0, 1) := by decide +kernel
theorem dX12_worst_27 : decode bX12_worst.2.1 27 = .ok (.getfield 275, 3) := by decide +kernel
theorem dX12_worst_30 : decode bX12_worst.2.1 30 = .ok (.iload 4, 2) := by decide +kernel
theorem dX12_worst_32 : decode bX12_worst.2.1 32 = .ok (.invokestatic 271, 3) := by decide +kernel
theorem dX12_worst_35 : decode bX12_worst.2.1 35 = .ok (.ifCond .ne 54, 3) := by decide +kernel
theorem dX12_worst_38 : decode bX12_worst.2.1 38 = .ok (.aload_n 0, 1) := by decide +kernel
theorem dX12_worst_39 : decode bX12_worst.2.1 39 = .ok (.dup, 1) := by decide +kernel
theorem dX12_worst_40 : decode bX12_worst.2.1 40 = .ok (.getfield 275, 3) := by decide +kernel
theorem dX12_worst_43 : decode bX12_worst.2.1 43 = .ok (.iconst 1, 1) := by decide +kernel
theorem dX12_worst_44 : decode bX12_worst.2.1 44 = .ok (.iload 4, 2) := by decide +kernel
theorem dX12_worst_46 : decode bX12_worst.2.1 46 = .ok (.ishl, 1) := by decide +kernel
theorem dX12_worst_47 : decode bX12_worst.2.1 47 = .ok (.ixor, 1) := by decide +kernel
theorem dX12_worst_48 : decode bX12_worst.2.1 48 = .ok (.putfield 275, 3) := by decide +kernel
theorem dX12_worst_51 : decode bX12_worst.2.1 51 = .ok (.aload_n 0, 1) := by decide +kernel
theorem dX12_worst_52 : decode bX12_worst.2.1 52 = .ok (.iload_n 1, 1) := by decide +kernel
theorem dX12_worst_53 : decode bX12_worst.2.1 53 = .ok (.iconst (-1), 1) := by decide +kernel
theorem dX12_worst_54 : decode bX12_worst.2.1 54 = .ok (.invokevirtual 411, 3) := by decide +kernel
theorem dX12_worst_57 : decode bX12_worst.2.1 57 = .ok (.istore 5, 2) := by decide +kernel
theorem dX12_worst_59 : decode bX12_worst.2.1 59 = .ok (.aload_n 0, 1) := by decide +kernel
theorem dX12_worst_60 : decode bX12_worst.2.1 60 = .ok (.dup, 1) := by decide +kernel
theorem dX12_worst_61 : decode bX12_worst.2.1 61 = .ok (.getfield 275, 3) := by decide +kernel
theorem dX12_worst_64 : decode bX12_worst.2.1 64 = .ok (.iconst 1, 1) := by decide +kernel
theorem dX12_worst_65 : decode bX12_worst.2.1 65 = .ok (.iload 4, 2) := by decide +kernel
theorem dX12_worst_67 : decode bX12_worst.2.1 67 = .ok (.ishl, 1) := by decide +kernel
theorem dX12_worst_68 : decode bX12_worst.2.1 68 = .ok (.ixor, 1) := by decide +kernel
theorem dX12_worst_69 : decode bX12_worst.2.1 69 = .ok (.putfield 275, 3) := by decide +kernel
theorem dX12_worst_72 : decode bX12_worst.2.1 72 = .ok (.iload_n 2, 1) := by decide +kernel
theorem dX12_worst_73 : decode bX12_worst.2.1 73 = .ok (.iconst (-1), 1) := by decide +kernel
theorem dX12_worst_74 : decode bX12_worst.2.1 74 = .ok (.if_icmp .eq 9, 3) := by decide +kernel
theorem dX12_worst_77 : decode bX12_worst.2.1 77 = .ok (.iload 5, 2) := by decide +kernel
theorem dX12_worst_79 : decode bX12_worst.2.1 79 = .ok (.iload_n 3, 1) := by decide +kernel
theorem dX12_worst_80 : decode bX12_worst.2.1 80 = .ok (.if_icmp .le 9, 3) := by decide +kernel
theorem dX12_worst_83 : decode bX12_worst.2.1 83 = .ok (.iload 4, 2) := by decide +kernel
theorem dX12_worst_85 : decode bX12_worst.2.1 85 = .ok (.istore_n 2, 1) := by decide +kernel
theorem dX12_worst_86 : decode bX12_worst.2.1 86 = .ok (.iload 5, 2) := by decide +kernel
theorem dX12_worst_88 : decode bX12_worst.2.1 88 = .ok (.istore_n 3, 1) := by decide +kernel
theorem dX12_worst_89 : decode bX12_worst.2.1 89 = .ok (.iinc 4 1, 3) := by decide +kernel
theorem dX12_worst_92 : decode bX12_worst.2.1 92 = .ok (.goto (-75), 3) := by decide +kernel
theorem dX12_worst_95 : decode bX12_worst.2.1 95 = .ok (.iload_n 2, 1) := by decide +kernel
theorem dX12_worst_96 : decode bX12_worst.2.1 96 = .ok (.ireturn, 1) := by decide +kernel
theorem dX12_silence_0 : decode bX12_silence.2.1 0 = .ok (.aload_n 0, 1) := by decide +kernel
theorem dX12_silence_1 : decode bX12_silence.2.1 1 = .ok (.getfield 268, 3) := by decide +kernel
theorem dX12_silence_4 : decode bX12_silence.2.1 4 = .ok (.ifCond .eq 10, 3) := by decide +kernel
theorem dX12_silence_7 : decode bX12_silence.2.1 7 = .ok (.iload_n 1, 1) := by decide +kernel
theorem dX12_silence_8 : decode bX12_silence.2.1 8 = .ok (.invokestatic 323, 3) := by decide +kernel
theorem dX12_silence_11 : decode bX12_silence.2.1 11 = .ok (.ifCond .ne 5, 3) := by decide +kernel
theorem dX12_silence_14 : decode bX12_silence.2.1 14 = .ok (.iconst (-1), 1) := by decide +kernel
theorem dX12_silence_15 : decode bX12_silence.2.1 15 = .ok (.ireturn, 1) := by decide +kernel
theorem dX12_silence_16 : decode bX12_silence.2.1 16 = .ok (.iconst (-1), 1) := by decide +kernel
theorem dX12_silence_17 : decode bX12_silence.2.1 17 = .ok (.istore_n 2, 1) := by decide +kernel
theorem dX12_silence_18 : decode bX12_silence.2.1 18 = .ok (.iconst (-1), 1) := by decide +kernel
theorem dX12_silence_19 : decode bX12_silence.2.1 19 = .ok (.istore_n 3, 1) := by decide +kernel
theorem dX12_silence_20 : decode bX12_silence.2.1 20 = .ok (.iconst 0, 1) := by decide +kernel
theorem dX12_silence_21 : decode bX12_silence.2.1 21 = .ok (.istore 4, 2) := by decide +kernel
theorem dX12_silence_23 : decode bX12_silence.2.1 23 = .ok (.iload 4, 2) := by decide +kernel
theorem dX12_silence_25 : decode bX12_silence.2.1 25 = .ok (.aload_n 0, 1) := by decide +kernel
theorem dX12_silence_26 : decode bX12_silence.2.1 26 = .ok (.getfield 268, 3) := by decide +kernel
theorem dX12_silence_29 : decode bX12_silence.2.1 29 = .ok (.if_icmp .ge 50, 3) := by decide +kernel
theorem dX12_silence_32 : decode bX12_silence.2.1 32 = .ok (.aload_n 0, 1) := by decide +kernel
theorem dX12_silence_33 : decode bX12_silence.2.1 33 = .ok (.getfield 49, 3) := by decide +kernel
theorem dX12_silence_36 : decode bX12_silence.2.1 36 = .ok (.iload 4, 2) := by decide +kernel
theorem dX12_silence_38 : decode bX12_silence.2.1 38 = .ok (.iaload, 1) := by decide +kernel
theorem dX12_silence_39 : decode bX12_silence.2.1 39 = .ok (.iload_n 1, 1) := by decide +kernel
theorem dX12_silence_40 : decode bX12_silence.2.1 40 = .ok (.if_icmp .ne 14, 3) := by decide +kernel
theorem dX12_silence_43 : decode bX12_silence.2.1 43 = .ok (.iload_n 2, 1) := by decide +kernel
theorem dX12_silence_44 : decode bX12_silence.2.1 44 = .ok (.iload_n 3, 1) := by decide +kernel
theorem dX12_silence_45 : decode bX12_silence.2.1 45 = .ok (.invokestatic 315, 3) := by decide +kernel
theorem dX12_silence_48 : decode bX12_silence.2.1 48 = .ok (.istore_n 2, 1) := by decide +kernel
theorem dX12_silence_49 : decode bX12_silence.2.1 49 = .ok (.iconst 0, 1) := by decide +kernel
theorem dX12_silence_50 : decode bX12_silence.2.1 50 = .ok (.istore_n 3, 1) := by decide +kernel
theorem dX12_silence_51 : decode bX12_silence.2.1 51 = .ok (.goto 22, 3) := by decide +kernel
theorem dX12_silence_54 : decode bX12_silence.2.1 54 = .ok (.iload_n 3, 1) := by decide +kernel
theorem dX12_silence_55 : decode bX12_silence.2.1 55 = .ok (.iload_n 3, 1) := by decide +kernel
theorem dX12_silence_56 : decode bX12_silence.2.1 56 = .ok (.iconst (-1), 1) := by decide +kernel
theorem dX12_silence_57 : decode bX12_silence.2.1 57 = .ok (.if_icmp .ne 7, 3) := by decide +kernel
theorem dX12_silence_60 : decode bX12_silence.2.1 60 = .ok (.iconst 0, 1) := by decide +kernel
theorem dX12_silence_61 : decode bX12_silence.2.1 61 = .ok (.goto 10, 3) := by decide +kernel
theorem dX12_silence_64 : decode bX12_silence.2.1 64 = .ok (.aload_n 0, 1) := by decide +kernel
theorem dX12_silence_65 : decode bX12_silence.2.1 65 = .ok (.getfield 55, 3) := by decide +kernel
theorem dX12_silence_68 : decode bX12_silence.2.1 68 = .ok (.iload 4, 2) := by decide +kernel
theorem dX12_silence_70 : decode bX12_silence.2.1 70 = .ok (.iaload, 1) := by decide +kernel
theorem dX12_silence_71 : decode bX12_silence.2.1 71 = .ok (.iadd, 1) := by decide +kernel
theorem dX12_silence_72 : decode bX12_silence.2.1 72 = .ok (.istore_n 3, 1) := by decide +kernel
theorem dX12_silence_73 : decode bX12_silence.2.1 73 = .ok (.iinc 4 1, 3) := by decide +kernel
theorem dX12_silence_76 : decode bX12_silence.2.1 76 = .ok (.goto (-53), 3) := by decide +kernel
theorem dX12_silence_79 : decode bX12_silence.2.1 79 = .ok (.iload_n 2, 1) := by decide +kernel
theorem dX12_silence_80 : decode bX12_silence.2.1 80 = .ok (.ireturn, 1) := by decide +kernel
theorem dX12_spare_0 : decode bX12_spare.2.1 0 = .ok (.aload_n 0, 1) := by decide +kernel
theorem dX12_spare_1 : decode bX12_spare.2.1 1 = .ok (.getfield 268, 3) := by decide +kernel
theorem dX12_spare_4 : decode bX12_spare.2.1 4 = .ok (.ifCond .eq 32, 3) := by decide +kernel
theorem dX12_spare_7 : decode bX12_spare.2.1 7 = .ok (.iload_n 1, 1) := by decide +kernel
theorem dX12_spare_8 : decode bX12_spare.2.1 8 = .ok (.iconst 1, 1) := by decide +kernel
theorem dX12_spare_9 : decode bX12_spare.2.1 9 = .ok (.bipush 8, 2) := by decide +kernel
theorem dX12_spare_11 : decode bX12_spare.2.1 11 = .ok (.invokestatic 229, 3) := by decide +kernel
theorem dX12_spare_14 : decode bX12_spare.2.1 14 = .ok (.ifCond .eq 22, 3) := by decide +kernel
theorem dX12_spare_17 : decode bX12_spare.2.1 17 = .ok (.aload_n 0, 1) := by decide +kernel
theorem dX12_spare_18 : decode bX12_spare.2.1 18 = .ok (.getfield 268, 3) := by decide +kernel
theorem dX12_spare_21 : decode bX12_spare.2.1 21 = .ok (.iconst 2, 1) := by decide +kernel
theorem dX12_spare_22 : decode bX12_spare.2.1 22 = .ok (.isub, 1) := by decide +kernel
theorem dX12_spare_23 : decode bX12_spare.2.1 23 = .ok (.iload_n 1, 1) := by decide +kernel
theorem dX12_spare_24 : decode bX12_spare.2.1 24 = .ok (.if_icmp .lt 12, 3) := by decide +kernel
theorem dX12_spare_27 : decode bX12_spare.2.1 27 = .ok (.iload_n 2, 1) := by decide +kernel
theorem dX12_spare_28 : decode bX12_spare.2.1 28 = .ok (.iconst 0, 1) := by decide +kernel
theorem dX12_spare_29 : decode bX12_spare.2.1 29 = .ok (.iconst 1, 1) := by decide +kernel
theorem dX12_spare_30 : decode bX12_spare.2.1 30 = .ok (.invokestatic 229, 3) := by decide +kernel
theorem dX12_spare_33 : decode bX12_spare.2.1 33 = .ok (.ifCond .ne 5, 3) := by decide +kernel
theorem dX12_spare_36 : decode bX12_spare.2.1 36 = .ok (.iconst (-1), 1) := by decide +kernel
theorem dX12_spare_37 : decode bX12_spare.2.1 37 = .ok (.ireturn, 1) := by decide +kernel
theorem dX12_spare_38 : decode bX12_spare.2.1 38 = .ok (.iconst 1, 1) := by decide +kernel
theorem dX12_spare_39 : decode bX12_spare.2.1 39 = .ok (.istore_n 3, 1) := by decide +kernel
theorem dX12_spare_40 : decode bX12_spare.2.1 40 = .ok (.iload_n 3, 1) := by decide +kernel
theorem dX12_spare_41 : decode bX12_spare.2.1 41 = .ok (.iload_n 1, 1) := by decide +kernel
theorem dX12_spare_42 : decode bX12_spare.2.1 42 = .ok (.iadd, 1) := by decide +kernel
theorem dX12_spare_43 : decode bX12_spare.2.1 43 = .ok (.aload_n 0, 1) := by decide +kernel
theorem dX12_spare_44 : decode bX12_spare.2.1 44 = .ok (.getfield 268, 3) := by decide +kernel
theorem dX12_spare_47 : decode bX12_spare.2.1 47 = .ok (.if_icmp .ge 40, 3) := by decide +kernel
theorem dX12_spare_50 : decode bX12_spare.2.1 50 = .ok (.aload_n 0, 1) := by decide +kernel
theorem dX12_spare_51 : decode bX12_spare.2.1 51 = .ok (.getfield 52, 3) := by decide +kernel
theorem dX12_spare_54 : decode bX12_spare.2.1 54 = .ok (.iload_n 3, 1) := by decide +kernel
theorem dX12_spare_55 : decode bX12_spare.2.1 55 = .ok (.iconst 1, 1) := by decide +kernel
theorem dX12_spare_56 : decode bX12_spare.2.1 56 = .ok (.isub, 1) := by decide +kernel
theorem dX12_spare_57 : decode bX12_spare.2.1 57 = .ok (.iaload, 1) := by decide +kernel
theorem dX12_spare_58 : decode bX12_spare.2.1 58 = .ok (.aload_n 0, 1) := by decide +kernel
theorem dX12_spare_59 : decode bX12_spare.2.1 59 = .ok (.getfield 52, 3) := by decide +kernel
theorem dX12_spare_62 : decode bX12_spare.2.1 62 = .ok (.iload_n 3, 1) := by decide +kernel
theorem dX12_spare_63 : decode bX12_spare.2.1 63 = .ok (.iload_n 1, 1) := by decide +kernel
theorem dX12_spare_64 : decode bX12_spare.2.1 64 = .ok (.iadd, 1) := by decide +kernel
theorem dX12_spare_65 : decode bX12_spare.2.1 65 = .ok (.iconst 1, 1) := by decide +kernel
theorem dX12_spare_66 : decode bX12_spare.2.1 66 = .ok (.isub, 1) := by decide +kernel
theorem dX12_spare_67 : decode bX12_spare.2.1 67 = .ok (.iaload, 1) := by decide +kernel
theorem dX12_spare_68 : decode bX12_spare.2.1 68 = .ok (.if_icmp .ne 13, 3) := by decide +kernel
theorem dX12_spare_71 : decode bX12_spare.2.1 71 = .ok (.iload_n 2, 1) := by decide +kernel
theorem dX12_spare_72 : decode bX12_spare.2.1 72 = .ok (.ifCond .ne 7, 3) := by decide +kernel
theorem dX12_spare_75 : decode bX12_spare.2.1 75 = .ok (.iload_n 3, 1) := by decide +kernel
theorem dX12_spare_76 : decode bX12_spare.2.1 76 = .ok (.goto 4, 3) := by decide +kernel
theorem dX12_spare_79 : decode bX12_spare.2.1 79 = .ok (.iconst 0, 1) := by decide +kernel
theorem dX12_spare_80 : decode bX12_spare.2.1 80 = .ok (.ireturn, 1) := by decide +kernel
theorem dX12_spare_81 : decode bX12_spare.2.1 81 = .ok (.iinc 3 1, 3) := by decide +kernel
theorem dX12_spare_84 : decode bX12_spare.2.1 84 = .ok (.goto (-44), 3) := by decide +kernel
theorem dX12_spare_87 : decode bX12_spare.2.1 87 = .ok (.iconst 1, 1) := by decide +kernel
theorem dX12_spare_88 : decode bX12_spare.2.1 88 = .ok (.ireturn, 1) := by decide +kernel
theorem dX12_canBeOne_0 : decode bX12_canBeOne.2.1 0 = .ok (.iconst 0, 1) := by decide +kernel
theorem dX12_canBeOne_1 : decode bX12_canBeOne.2.1 1 = .ok (.istore 4, 2) := by decide +kernel
theorem dX12_canBeOne_3 : decode bX12_canBeOne.2.1 3 = .ok (.iload 4, 2) := by decide +kernel
theorem dX12_canBeOne_5 : decode bX12_canBeOne.2.1 5 = .ok (.aload_n 0, 1) := by decide +kernel
theorem dX12_canBeOne_6 : decode bX12_canBeOne.2.1 6 = .ok (.getfield 268, 3) := by decide +kernel
theorem dX12_canBeOne_9 : decode bX12_canBeOne.2.1 9 = .ok (.if_icmp .ge 63, 3) := by decide +kernel
theorem dX12_canBeOne_12 : decode bX12_canBeOne.2.1 12 = .ok (.iconst 0, 1) := by decide +kernel
theorem dX12_canBeOne_13 : decode bX12_canBeOne.2.1 13 = .ok (.istore 5, 2) := by decide +kernel
theorem dX12_canBeOne_15 : decode bX12_canBeOne.2.1 15 = .ok (.iload 5, 2) := by decide +kernel
theorem dX12_canBeOne_17 : decode bX12_canBeOne.2.1 17 = .ok (.aload_n 0, 1) := by decide +kernel
theorem dX12_canBeOne_18 : decode bX12_canBeOne.2.1 18 = .ok (.getfield 268, 3) := by decide +kernel
theorem dX12_canBeOne_21 : decode bX12_canBeOne.2.1 21 = .ok (.if_icmp .ge 45, 3) := by decide +kernel
theorem dX12_canBeOne_24 : decode bX12_canBeOne.2.1 24 = .ok (.aload_n 0, 1) := by decide +kernel
theorem dX12_canBeOne_25 : decode bX12_canBeOne.2.1 25 = .ok (.getfield 49, 3) := by decide +kernel
theorem dX12_canBeOne_28 : decode bX12_canBeOne.2.1 28 = .ok (.iload 4, 2) := by decide +kernel
theorem dX12_canBeOne_30 : decode bX12_canBeOne.2.1 30 = .ok (.iaload, 1) := by decide +kernel
theorem dX12_canBeOne_31 : decode bX12_canBeOne.2.1 31 = .ok (.iload_n 1, 1) := by decide +kernel
theorem dX12_canBeOne_32 : decode bX12_canBeOne.2.1 32 = .ok (.if_icmp .ne 28, 3) := by decide +kernel
theorem dX12_canBeOne_35 : decode bX12_canBeOne.2.1 35 = .ok (.aload_n 0, 1) := by decide +kernel
theorem dX12_canBeOne_36 : decode bX12_canBeOne.2.1 36 = .ok (.getfield 49, 3) := by decide +kernel
theorem dX12_canBeOne_39 : decode bX12_canBeOne.2.1 39 = .ok (.iload 5, 2) := by decide +kernel
theorem dX12_canBeOne_41 : decode bX12_canBeOne.2.1 41 = .ok (.iaload, 1) := by decide +kernel
theorem dX12_canBeOne_42 : decode bX12_canBeOne.2.1 42 = .ok (.iload_n 2, 1) := by decide +kernel
theorem dX12_canBeOne_43 : decode bX12_canBeOne.2.1 43 = .ok (.if_icmp .ne 17, 3) := by decide +kernel
theorem dX12_canBeOne_46 : decode bX12_canBeOne.2.1 46 = .ok (.iload 4, 2) := by decide +kernel
theorem dX12_canBeOne_48 : decode bX12_canBeOne.2.1 48 = .ok (.iload 5, 2) := by decide +kernel
theorem dX12_canBeOne_50 : decode bX12_canBeOne.2.1 50 = .ok (.isub, 1) := by decide +kernel
theorem dX12_canBeOne_51 : decode bX12_canBeOne.2.1 51 = .ok (.invokestatic 390, 3) := by decide +kernel
theorem dX12_canBeOne_54 : decode bX12_canBeOne.2.1 54 = .ok (.iload_n 3, 1) := by decide +kernel
theorem dX12_canBeOne_55 : decode bX12_canBeOne.2.1 55 = .ok (.if_icmp .ge 5, 3) := by decide +kernel
theorem dX12_canBeOne_58 : decode bX12_canBeOne.2.1 58 = .ok (.iconst 0, 1) := by decide +kernel
theorem dX12_canBeOne_59 : decode bX12_canBeOne.2.1 59 = .ok (.ireturn, 1) := by decide +kernel
theorem dX12_canBeOne_60 : decode bX12_canBeOne.2.1 60 = .ok (.iinc 5 1, 3) := by decide +kernel
theorem dX12_canBeOne_63 : decode bX12_canBeOne.2.1 63 = .ok (.goto (-48), 3) := by decide +kernel
theorem dX12_canBeOne_66 : decode bX12_canBeOne.2.1 66 = .ok (.iinc 4 1, 3) := by decide +kernel
theorem dX12_canBeOne_69 : decode bX12_canBeOne.2.1 69 = .ok (.goto (-66), 3) := by decide +kernel
theorem dX12_canBeOne_72 : decode bX12_canBeOne.2.1 72 = .ok (.iconst 1, 1) := by decide +kernel
theorem dX12_canBeOne_73 : decode bX12_canBeOne.2.1 73 = .ok (.ireturn, 1) := by decide +kernel
theorem dX12_areOne_0 : decode bX12_areOne.2.1 0 = .ok (.iconst 0, 1) := by decide +kernel
theorem dX12_areOne_1 : decode bX12_areOne.2.1 1 = .ok (.istore_n 3, 1) := by decide +kernel
theorem dX12_areOne_2 : decode bX12_areOne.2.1 2 = .ok (.iload_n 3, 1) := by decide +kernel
theorem dX12_areOne_3 : decode bX12_areOne.2.1 3 = .ok (.bipush 8, 2) := by decide +kernel
theorem dX12_areOne_5 : decode bX12_areOne.2.1 5 = .ok (.if_icmp .ge 54, 3) := by decide +kernel
theorem dX12_areOne_8 : decode bX12_areOne.2.1 8 = .ok (.iconst 0, 1) := by decide +kernel
theorem dX12_areOne_9 : decode bX12_areOne.2.1 9 = .ok (.istore 4, 2) := by decide +kernel
theorem dX12_areOne_11 : decode bX12_areOne.2.1 11 = .ok (.iload 4, 2) := by decide +kernel
theorem dX12_areOne_13 : decode bX12_areOne.2.1 13 = .ok (.iload_n 3, 1) := by decide +kernel
theorem dX12_areOne_14 : decode bX12_areOne.2.1 14 = .ok (.if_icmp .ge 39, 3) := by decide +kernel
theorem dX12_areOne_17 : decode bX12_areOne.2.1 17 = .ok (.iload_n 1, 1) := by decide +kernel
theorem dX12_areOne_18 : decode bX12_areOne.2.1 18 = .ok (.iload_n 3, 1) := by decide +kernel
theorem dX12_areOne_19 : decode bX12_areOne.2.1 19 = .ok (.invokestatic 271, 3) := by decide +kernel
theorem dX12_areOne_22 : decode bX12_areOne.2.1 22 = .ok (.ifCond .eq 25, 3) := by decide +kernel
theorem dX12_areOne_25 : decode bX12_areOne.2.1 25 = .ok (.iload_n 1, 1) := by decide +kernel
theorem dX12_areOne_26 : decode bX12_areOne.2.1 26 = .ok (.iload 4, 2) := by decide +kernel
theorem dX12_areOne_28 : decode bX12_areOne.2.1 28 = .ok (.invokestatic 271, 3) := by decide +kernel
theorem dX12_areOne_31 : decode bX12_areOne.2.1 31 = .ok (.ifCond .eq 16, 3) := by decide +kernel
theorem dX12_areOne_34 : decode bX12_areOne.2.1 34 = .ok (.aload_n 0, 1) := by decide +kernel
theorem dX12_areOne_35 : decode bX12_areOne.2.1 35 = .ok (.iload_n 3, 1) := by decide +kernel
theorem dX12_areOne_36 : decode bX12_areOne.2.1 36 = .ok (.iload 4, 2) := by decide +kernel
theorem dX12_areOne_38 : decode bX12_areOne.2.1 38 = .ok (.iload_n 2, 1) := by decide +kernel
theorem dX12_areOne_39 : decode bX12_areOne.2.1 39 = .ok (.invokevirtual 420, 3) := by decide +kernel
theorem dX12_areOne_42 : decode bX12_areOne.2.1 42 = .ok (.ifCond .ne 5, 3) := by decide +kernel
theorem dX12_areOne_45 : decode bX12_areOne.2.1 45 = .ok (.iconst 0, 1) := by decide +kernel
theorem dX12_areOne_46 : decode bX12_areOne.2.1 46 = .ok (.ireturn, 1) := by decide +kernel
theorem dX12_areOne_47 : decode bX12_areOne.2.1 47 = .ok (.iinc 4 1, 3) := by decide +kernel
theorem dX12_areOne_50 : decode bX12_areOne.2.1 50 = .ok (.goto (-39), 3) := by decide +kernel
theorem dX12_areOne_53 : decode bX12_areOne.2.1 53 = .ok (.iinc 3 1, 3) := by decide +kernel
theorem dX12_areOne_56 : decode bX12_areOne.2.1 56 = .ok (.goto (-54), 3) := by decide +kernel
theorem dX12_areOne_59 : decode bX12_areOne.2.1 59 = .ok (.iconst 1, 1) := by decide +kernel
theorem dX12_areOne_60 : decode bX12_areOne.2.1 60 = .ok (.ireturn, 1) := by decide +kernel
theorem dX12_players_0 : decode bX12_players.2.1 0 = .ok (.aload_n 0, 1) := by decide +kernel
theorem dX12_players_1 : decode bX12_players.2.1 1 = .ok (.getfield 268, 3) := by decide +kernel
theorem dX12_players_4 : decode bX12_players.2.1 4 = .ok (.ifCond .eq 36, 3) := by decide +kernel
theorem dX12_players_7 : decode bX12_players.2.1 7 = .ok (.iload_n 1, 1) := by decide +kernel
theorem dX12_players_8 : decode bX12_players.2.1 8 = .ok (.iconst 1, 1) := by decide +kernel
theorem dX12_players_9 : decode bX12_players.2.1 9 = .ok (.bipush 24, 2) := by decide +kernel
theorem dX12_players_11 : decode bX12_players.2.1 11 = .ok (.invokestatic 229, 3) := by decide +kernel
theorem dX12_players_14 : decode bX12_players.2.1 14 = .ok (.ifCond .eq 26, 3) := by decide +kernel
theorem dX12_players_17 : decode bX12_players.2.1 17 = .ok (.iload_n 2, 1) := by decide +kernel
theorem dX12_players_18 : decode bX12_players.2.1 18 = .ok (.iconst (-1), 1) := by decide +kernel
theorem dX12_players_19 : decode bX12_players.2.1 19 = .ok (.if_icmp .eq 23, 3) := by decide +kernel
theorem dX12_players_22 : decode bX12_players.2.1 22 = .ok (.iload_n 2, 1) := by decide +kernel
theorem dX12_players_23 : decode bX12_players.2.1 23 = .ok (.invokestatic 323, 3) := by decide +kernel
theorem dX12_players_26 : decode bX12_players.2.1 26 = .ok (.ifCond .eq 14, 3) := by decide +kernel
theorem dX12_players_29 : decode bX12_players.2.1 29 = .ok (.aload_n 0, 1) := by decide +kernel
theorem dX12_players_30 : decode bX12_players.2.1 30 = .ok (.invokevirtual 417, 3) := by decide +kernel
theorem dX12_players_33 : decode bX12_players.2.1 33 = .ok (.iload_n 2, 1) := by decide +kernel
theorem dX12_players_34 : decode bX12_players.2.1 34 = .ok (.invokestatic 271, 3) := by decide +kernel
theorem dX12_players_37 : decode bX12_players.2.1 37 = .ok (.ifCond .ne 5, 3) := by decide +kernel
theorem dX12_players_40 : decode bX12_players.2.1 40 = .ok (.iconst (-1), 1) := by decide +kernel
theorem dX12_players_41 : decode bX12_players.2.1 41 = .ok (.ireturn, 1) := by decide +kernel
theorem dX12_players_42 : decode bX12_players.2.1 42 = .ok (.aload_n 0, 1) := by decide +kernel
theorem dX12_players_43 : decode bX12_players.2.1 43 = .ok (.invokevirtual 417, 3) := by decide +kernel
theorem dX12_players_46 : decode bX12_players.2.1 46 = .ok (.istore_n 3, 1) := by decide +kernel
theorem dX12_players_47 : decode bX12_players.2.1 47 = .ok (.iconst 0, 1) := by decide +kernel
theorem dX12_players_48 : decode bX12_players.2.1 48 = .ok (.istore 4, 2) := by decide +kernel
theorem dX12_players_50 : decode bX12_players.2.1 50 = .ok (.iconst 0, 1) := by decide +kernel
theorem dX12_players_51 : decode bX12_players.2.1 51 = .ok (.istore 5, 2) := by decide +kernel
theorem dX12_players_53 : decode bX12_players.2.1 53 = .ok (.iload 5, 2) := by decide +kernel
theorem dX12_players_55 : decode bX12_players.2.1 55 = .ok (.bipush 8, 2) := by decide +kernel
theorem dX12_players_57 : decode bX12_players.2.1 57 = .ok (.if_icmp .ge 53, 3) := by decide +kernel
theorem dX12_players_60 : decode bX12_players.2.1 60 = .ok (.iload_n 2, 1) := by decide +kernel
theorem dX12_players_61 : decode bX12_players.2.1 61 = .ok (.iconst (-1), 1) := by decide +kernel
theorem dX12_players_62 : decode bX12_players.2.1 62 = .ok (.if_icmp .eq 48, 3) := by decide +kernel
theorem dX12_players_65 : decode bX12_players.2.1 65 = .ok (.iload 4, 2) := by decide +kernel
theorem dX12_players_67 : decode bX12_players.2.1 67 = .ok (.iload 5, 2) := by decide +kernel
theorem dX12_players_69 : decode bX12_players.2.1 69 = .ok (.iload_n 2, 1) := by decide +kernel
theorem dX12_players_70 : decode bX12_players.2.1 70 = .ok (.if_icmp .eq 30, 3) := by decide +kernel
theorem dX12_players_73 : decode bX12_players.2.1 73 = .ok (.iload_n 3, 1) := by decide +kernel
theorem dX12_players_74 : decode bX12_players.2.1 74 = .ok (.iload 5, 2) := by decide +kernel
theorem dX12_players_76 : decode bX12_players.2.1 76 = .ok (.invokestatic 271, 3) := by decide +kernel
theorem dX12_players_79 : decode bX12_players.2.1 79 = .ok (.ifCond .eq 21, 3) := by decide +kernel
theorem dX12_players_82 : decode bX12_players.2.1 82 = .ok (.aload_n 0, 1) := by decide +kernel
theorem dX12_players_83 : decode bX12_players.2.1 83 = .ok (.iload_n 2, 1) := by decide +kernel
theorem dX12_players_84 : decode bX12_players.2.1 84 = .ok (.iload 5, 2) := by decide +kernel
theorem dX12_players_86 : decode bX12_players.2.1 86 = .ok (.iload_n 1, 1) := by decide +kernel
theorem dX12_players_87 : decode bX12_players.2.1 87 = .ok (.invokevirtual 420, 3) := by decide +kernel
theorem dX12_players_90 : decode bX12_players.2.1 90 = .ok (.ifCond .eq 10, 3) := by decide +kernel
theorem dX12_players_93 : decode bX12_players.2.1 93 = .ok (.iconst 1, 1) := by decide +kernel
theorem dX12_players_94 : decode bX12_players.2.1 94 = .ok (.iload 5, 2) := by decide +kernel
theorem dX12_players_96 : decode bX12_players.2.1 96 = .ok (.ishl, 1) := by decide +kernel
theorem dX12_players_97 : decode bX12_players.2.1 97 = .ok (.goto 4, 3) := by decide +kernel
theorem dX12_players_100 : decode bX12_players.2.1 100 = .ok (.iconst 0, 1) := by decide +kernel
theorem dX12_players_101 : decode bX12_players.2.1 101 = .ok (.ior, 1) := by decide +kernel
theorem dX12_players_102 : decode bX12_players.2.1 102 = .ok (.istore 4, 2) := by decide +kernel
theorem dX12_players_104 : decode bX12_players.2.1 104 = .ok (.iinc 5 1, 3) := by decide +kernel
theorem dX12_players_107 : decode bX12_players.2.1 107 = .ok (.goto (-54), 3) := by decide +kernel
theorem dX12_players_110 : decode bX12_players.2.1 110 = .ok (.iload_n 2, 1) := by decide +kernel
theorem dX12_players_111 : decode bX12_players.2.1 111 = .ok (.iconst (-1), 1) := by decide +kernel
theorem dX12_players_112 : decode bX12_players.2.1 112 = .ok (.if_icmp .eq 6, 3) := by decide +kernel
theorem dX12_players_115 : decode bX12_players.2.1 115 = .ok (.iload 4, 2) := by decide +kernel
theorem dX12_players_117 : decode bX12_players.2.1 117 = .ok (.ireturn, 1) := by decide +kernel
theorem dX12_players_118 : decode bX12_players.2.1 118 = .ok (.iconst 0, 1) := by decide +kernel
theorem dX12_players_119 : decode bX12_players.2.1 119 = .ok (.istore 5, 2) := by decide +kernel
theorem dX12_players_121 : decode bX12_players.2.1 121 = .ok (.iload 5, 2) := by decide +kernel
theorem dX12_players_123 : decode bX12_players.2.1 123 = .ok (.sipush 256, 3) := by decide +kernel
theorem dX12_players_126 : decode bX12_players.2.1 126 = .ok (.if_icmp .ge 136, 3) := by decide +kernel
theorem dX12_players_129 : decode bX12_players.2.1 129 = .ok (.aload_n 0, 1) := by decide +kernel
theorem dX12_players_130 : decode bX12_players.2.1 130 = .ok (.getfield 108, 3) := by decide +kernel
theorem dX12_players_133 : decode bX12_players.2.1 133 = .ok (.iload 5, 2) := by decide +kernel
theorem dX12_players_135 : decode bX12_players.2.1 135 = .ok (.iload 5, 2) := by decide +kernel
theorem dX12_players_137 : decode bX12_players.2.1 137 = .ok (.ifCond .ne 7, 3) := by decide +kernel
theorem dX12_players_140 : decode bX12_players.2.1 140 = .ok (.iconst 0, 1) := by decide +kernel
theorem dX12_players_141 : decode bX12_players.2.1 141 = .ok (.goto 5, 3) := by decide +kernel
theorem dX12_players_144 : decode bX12_players.2.1 144 = .ok (.bipush 8, 2) := by decide +kernel
theorem dX12_players_146 : decode bX12_players.2.1 146 = .ok (.iastore, 1) := by decide +kernel
theorem dX12_players_147 : decode bX12_players.2.1 147 = .ok (.iload 5, 2) := by decide +kernel
theorem dX12_players_149 : decode bX12_players.2.1 149 = .ok (.istore 6, 2) := by decide +kernel
theorem dX12_players_151 : decode bX12_players.2.1 151 = .ok (.iload 6, 2) := by decide +kernel
theorem dX12_players_153 : decode bX12_players.2.1 153 = .ok (.ifCond .le 103, 3) := by decide +kernel
theorem dX12_players_156 : decode bX12_players.2.1 156 = .ok (.iload 5, 2) := by decide +kernel
theorem dX12_players_158 : decode bX12_players.2.1 158 = .ok (.iload_n 3, 1) := by decide +kernel
theorem dX12_players_159 : decode bX12_players.2.1 159 = .ok (.iconst (-1), 1) := by decide +kernel
theorem dX12_players_160 : decode bX12_players.2.1 160 = .ok (.ixor, 1) := by decide +kernel
theorem dX12_players_161 : decode bX12_players.2.1 161 = .ok (.iand, 1) := by decide +kernel
theorem dX12_players_162 : decode bX12_players.2.1 162 = .ok (.ifCond .ne 43, 3) := by decide +kernel
theorem dX12_players_165 : decode bX12_players.2.1 165 = .ok (.iload 6, 2) := by decide +kernel
theorem dX12_players_167 : decode bX12_players.2.1 167 = .ok (.iload 5, 2) := by decide +kernel
theorem dX12_players_169 : decode bX12_players.2.1 169 = .ok (.iand, 1) := by decide +kernel
theorem dX12_players_170 : decode bX12_players.2.1 170 = .ok (.iload 5, 2) := by decide +kernel
theorem dX12_players_172 : decode bX12_players.2.1 172 = .ok (.ineg, 1) := by decide +kernel
theorem dX12_players_173 : decode bX12_players.2.1 173 = .ok (.iand, 1) := by decide +kernel
theorem dX12_players_174 : decode bX12_players.2.1 174 = .ok (.ifCond .eq 31, 3) := by decide +kernel
theorem dX12_players_177 : decode bX12_players.2.1 177 = .ok (.iconst 1, 1) := by decide +kernel
theorem dX12_players_178 : decode bX12_players.2.1 178 = .ok (.aload_n 0, 1) := by decide +kernel
theorem dX12_players_179 : decode bX12_players.2.1 179 = .ok (.getfield 108, 3) := by decide +kernel
theorem dX12_players_182 : decode bX12_players.2.1 182 = .ok (.iload 5, 2) := by decide +kernel
theorem dX12_players_184 : decode bX12_players.2.1 184 = .ok (.iload 6, 2) := by decide +kernel
theorem dX12_players_186 : decode bX12_players.2.1 186 = .ok (.iconst (-1), 1) := by decide +kernel
theorem dX12_players_187 : decode bX12_players.2.1 187 = .ok (.ixor, 1) := by decide +kernel
theorem dX12_players_188 : decode bX12_players.2.1 188 = .ok (.iand, 1) := by decide +kernel
theorem dX12_players_189 : decode bX12_players.2.1 189 = .ok (.iaload, 1) := by decide +kernel
theorem dX12_players_190 : decode bX12_players.2.1 190 = .ok (.iadd, 1) := by decide +kernel
theorem dX12_players_191 : decode bX12_players.2.1 191 = .ok (.aload_n 0, 1) := by decide +kernel
theorem dX12_players_192 : decode bX12_players.2.1 192 = .ok (.getfield 108, 3) := by decide +kernel
theorem dX12_players_195 : decode bX12_players.2.1 195 = .ok (.iload 5, 2) := by decide +kernel
theorem dX12_players_197 : decode bX12_players.2.1 197 = .ok (.iaload, 1) := by decide +kernel
theorem dX12_players_198 : decode bX12_players.2.1 198 = .ok (.if_icmp .ge 7, 3) := by decide +kernel
theorem dX12_players_201 : decode bX12_players.2.1 201 = .ok (.iconst 1, 1) := by decide +kernel
theorem dX12_players_202 : decode bX12_players.2.1 202 = .ok (.goto 4, 3) := by decide +kernel
theorem dX12_players_205 : decode bX12_players.2.1 205 = .ok (.iconst 0, 1) := by decide +kernel
theorem dX12_players_206 : decode bX12_players.2.1 206 = .ok (.istore 7, 2) := by decide +kernel
theorem dX12_players_208 : decode bX12_players.2.1 208 = .ok (.iload 7, 2) := by decide +kernel
theorem dX12_players_210 : decode bX12_players.2.1 210 = .ok (.ifCond .eq 34, 3) := by decide +kernel
theorem dX12_players_213 : decode bX12_players.2.1 213 = .ok (.aload_n 0, 1) := by decide +kernel
theorem dX12_players_214 : decode bX12_players.2.1 214 = .ok (.iload 6, 2) := by decide +kernel
theorem dX12_players_216 : decode bX12_players.2.1 216 = .ok (.iload_n 1, 1) := by decide +kernel
theorem dX12_players_217 : decode bX12_players.2.1 217 = .ok (.invokevirtual 423, 3) := by decide +kernel
theorem dX12_players_220 : decode bX12_players.2.1 220 = .ok (.ifCond .eq 24, 3) := by decide +kernel
theorem dX12_players_223 : decode bX12_players.2.1 223 = .ok (.aload_n 0, 1) := by decide +kernel
theorem dX12_players_224 : decode bX12_players.2.1 224 = .ok (.getfield 108, 3) := by decide +kernel
theorem dX12_players_227 : decode bX12_players.2.1 227 = .ok (.iload 5, 2) := by decide +kernel
theorem dX12_players_229 : decode bX12_players.2.1 229 = .ok (.iconst 1, 1) := by decide +kernel
theorem dX12_players_230 : decode bX12_players.2.1 230 = .ok (.aload_n 0, 1) := by decide +kernel
theorem dX12_players_231 : decode bX12_players.2.1 231 = .ok (.getfield 108, 3) := by decide +kernel
theorem dX12_players_234 : decode bX12_players.2.1 234 = .ok (.iload 5, 2) := by decide +kernel
theorem dX12_players_236 : decode bX12_players.2.1 236 = .ok (.iload 6, 2) := by decide +kernel
theorem dX12_players_238 : decode bX12_players.2.1 238 = .ok (.iconst (-1), 1) := by decide +kernel
theorem dX12_players_239 : decode bX12_players.2.1 239 = .ok (.ixor, 1) := by decide +kernel
theorem dX12_players_240 : decode bX12_players.2.1 240 = .ok (.iand, 1) := by decide +kernel
theorem dX12_players_241 : decode bX12_players.2.1 241 = .ok (.iaload, 1) := by decide +kernel
theorem dX12_players_242 : decode bX12_players.2.1 242 = .ok (.iadd, 1) := by decide +kernel
theorem dX12_players_243 : decode bX12_players.2.1 243 = .ok (.iastore, 1) := by decide +kernel
theorem dX12_players_244 : decode bX12_players.2.1 244 = .ok (.iload 6, 2) := by decide +kernel
theorem dX12_players_246 : decode bX12_players.2.1 246 = .ok (.iconst 1, 1) := by decide +kernel
theorem dX12_players_247 : decode bX12_players.2.1 247 = .ok (.isub, 1) := by decide +kernel
theorem dX12_players_248 : decode bX12_players.2.1 248 = .ok (.iload 5, 2) := by decide +kernel
theorem dX12_players_250 : decode bX12_players.2.1 250 = .ok (.iand, 1) := by decide +kernel
theorem dX12_players_251 : decode bX12_players.2.1 251 = .ok (.istore 6, 2) := by decide +kernel
theorem dX12_players_253 : decode bX12_players.2.1 253 = .ok (.goto (-102), 3) := by decide +kernel
theorem dX12_players_256 : decode bX12_players.2.1 256 = .ok (.iinc 5 1, 3) := by decide +kernel
theorem dX12_players_259 : decode bX12_players.2.1 259 = .ok (.goto (-138), 3) := by decide +kernel
theorem dX12_players_262 : decode bX12_players.2.1 262 = .ok (.aload_n 0, 1) := by decide +kernel
theorem dX12_players_263 : decode bX12_players.2.1 263 = .ok (.getfield 108, 3) := by decide +kernel
theorem dX12_players_266 : decode bX12_players.2.1 266 = .ok (.iload_n 3, 1) := by decide +kernel
theorem dX12_players_267 : decode bX12_players.2.1 267 = .ok (.iaload, 1) := by decide +kernel
theorem dX12_players_268 : decode bX12_players.2.1 268 = .ok (.ireturn, 1) := by decide +kernel
theorem dX12_lossesFor_0 : decode bX12_lossesFor.2.1 0 = .ok (.iconst (-1), 1) := by decide +kernel
theorem dX12_lossesFor_1 : decode bX12_lossesFor.2.1 1 = .ok (.istore_n 3, 1) := by decide +kernel
theorem dX12_lossesFor_2 : decode bX12_lossesFor.2.1 2 = .ok (.iconst 0, 1) := by decide +kernel
theorem dX12_lossesFor_3 : decode bX12_lossesFor.2.1 3 = .ok (.istore 4, 2) := by decide +kernel
theorem dX12_lossesFor_5 : decode bX12_lossesFor.2.1 5 = .ok (.iconst 0, 1) := by decide +kernel
theorem dX12_lossesFor_6 : decode bX12_lossesFor.2.1 6 = .ok (.istore 5, 2) := by decide +kernel
theorem dX12_lossesFor_8 : decode bX12_lossesFor.2.1 8 = .ok (.iload 5, 2) := by decide +kernel
theorem dX12_lossesFor_10 : decode bX12_lossesFor.2.1 10 = .ok (.aload_n 0, 1) := by decide +kernel
theorem dX12_lossesFor_11 : decode bX12_lossesFor.2.1 11 = .ok (.getfield 268, 3) := by decide +kernel
theorem dX12_lossesFor_14 : decode bX12_lossesFor.2.1 14 = .ok (.if_icmp .gt 229, 3) := by decide +kernel
theorem dX12_lossesFor_17 : decode bX12_lossesFor.2.1 17 = .ok (.iload 5, 2) := by decide +kernel
theorem dX12_lossesFor_19 : decode bX12_lossesFor.2.1 19 = .ok (.aload_n 0, 1) := by decide +kernel
theorem dX12_lossesFor_20 : decode bX12_lossesFor.2.1 20 = .ok (.getfield 268, 3) := by decide +kernel
theorem dX12_lossesFor_23 : decode bX12_lossesFor.2.1 23 = .ok (.if_icmp .ne 10, 3) := by decide +kernel
theorem dX12_lossesFor_26 : decode bX12_lossesFor.2.1 26 = .ok (.aload_n 0, 1) := by decide +kernel
theorem dX12_lossesFor_27 : decode bX12_lossesFor.2.1 27 = .ok (.getfield 268, 3) := by decide +kernel
theorem dX12_lossesFor_30 : decode bX12_lossesFor.2.1 30 = .ok (.goto 7, 3) := by decide +kernel
theorem dX12_lossesFor_33 : decode bX12_lossesFor.2.1 33 = .ok (.iload 5, 2) := by decide +kernel
theorem dX12_lossesFor_35 : decode bX12_lossesFor.2.1 35 = .ok (.iconst 1, 1) := by decide +kernel
theorem dX12_lossesFor_36 : decode bX12_lossesFor.2.1 36 = .ok (.iadd, 1) := by decide +kernel
theorem dX12_lossesFor_37 : decode bX12_lossesFor.2.1 37 = .ok (.istore 6, 2) := by decide +kernel
theorem dX12_lossesFor_39 : decode bX12_lossesFor.2.1 39 = .ok (.iload 6, 2) := by decide +kernel
theorem dX12_lossesFor_41 : decode bX12_lossesFor.2.1 41 = .ok (.aload_n 0, 1) := by decide +kernel
theorem dX12_lossesFor_42 : decode bX12_lossesFor.2.1 42 = .ok (.getfield 268, 3) := by decide +kernel
theorem dX12_lossesFor_45 : decode bX12_lossesFor.2.1 45 = .ok (.if_icmp .gt 192, 3) := by decide +kernel
theorem dX12_lossesFor_48 : decode bX12_lossesFor.2.1 48 = .ok (.iload 6, 2) := by decide +kernel
theorem dX12_lossesFor_50 : decode bX12_lossesFor.2.1 50 = .ok (.aload_n 0, 1) := by decide +kernel
theorem dX12_lossesFor_51 : decode bX12_lossesFor.2.1 51 = .ok (.getfield 268, 3) := by decide +kernel
theorem dX12_lossesFor_54 : decode bX12_lossesFor.2.1 54 = .ok (.if_icmp .ne 10, 3) := by decide +kernel
theorem dX12_lossesFor_57 : decode bX12_lossesFor.2.1 57 = .ok (.aload_n 0, 1) := by decide +kernel
theorem dX12_lossesFor_58 : decode bX12_lossesFor.2.1 58 = .ok (.getfield 268, 3) := by decide +kernel
theorem dX12_lossesFor_61 : decode bX12_lossesFor.2.1 61 = .ok (.goto 7, 3) := by decide +kernel
theorem dX12_lossesFor_64 : decode bX12_lossesFor.2.1 64 = .ok (.iload 6, 2) := by decide +kernel
theorem dX12_lossesFor_66 : decode bX12_lossesFor.2.1 66 = .ok (.iconst 1, 1) := by decide +kernel
theorem dX12_lossesFor_67 : decode bX12_lossesFor.2.1 67 = .ok (.iadd, 1) := by decide +kernel
theorem dX12_lossesFor_68 : decode bX12_lossesFor.2.1 68 = .ok (.istore 7, 2) := by decide +kernel
theorem dX12_lossesFor_70 : decode bX12_lossesFor.2.1 70 = .ok (.iload 7, 2) := by decide +kernel
theorem dX12_lossesFor_72 : decode bX12_lossesFor.2.1 72 = .ok (.aload_n 0, 1) := by decide +kernel
theorem dX12_lossesFor_73 : decode bX12_lossesFor.2.1 73 = .ok (.getfield 268, 3) := by decide +kernel
theorem dX12_lossesFor_76 : decode bX12_lossesFor.2.1 76 = .ok (.if_icmp .gt 155, 3) := by decide +kernel
theorem dX12_lossesFor_79 : decode bX12_lossesFor.2.1 79 = .ok (.iload 7, 2) := by decide +kernel
theorem dX12_lossesFor_81 : decode bX12_lossesFor.2.1 81 = .ok (.aload_n 0, 1) := by decide +kernel
theorem dX12_lossesFor_82 : decode bX12_lossesFor.2.1 82 = .ok (.getfield 268, 3) := by decide +kernel
theorem dX12_lossesFor_85 : decode bX12_lossesFor.2.1 85 = .ok (.if_icmp .ne 10, 3) := by decide +kernel
theorem dX12_lossesFor_88 : decode bX12_lossesFor.2.1 88 = .ok (.aload_n 0, 1) := by decide +kernel
theorem dX12_lossesFor_89 : decode bX12_lossesFor.2.1 89 = .ok (.getfield 268, 3) := by decide +kernel
theorem dX12_lossesFor_92 : decode bX12_lossesFor.2.1 92 = .ok (.goto 7, 3) := by decide +kernel
theorem dX12_lossesFor_95 : decode bX12_lossesFor.2.1 95 = .ok (.iload 7, 2) := by decide +kernel
theorem dX12_lossesFor_97 : decode bX12_lossesFor.2.1 97 = .ok (.iconst 1, 1) := by decide +kernel
theorem dX12_lossesFor_98 : decode bX12_lossesFor.2.1 98 = .ok (.iadd, 1) := by decide +kernel
theorem dX12_lossesFor_99 : decode bX12_lossesFor.2.1 99 = .ok (.istore 8, 2) := by decide +kernel
theorem dX12_lossesFor_101 : decode bX12_lossesFor.2.1 101 = .ok (.iload 8, 2) := by decide +kernel
theorem dX12_lossesFor_103 : decode bX12_lossesFor.2.1 103 = .ok (.aload_n 0, 1) := by decide +kernel
theorem dX12_lossesFor_104 : decode bX12_lossesFor.2.1 104 = .ok (.getfield 268, 3) := by decide +kernel
theorem dX12_lossesFor_107 : decode bX12_lossesFor.2.1 107 = .ok (.if_icmp .gt 118, 3) := by decide +kernel
theorem dX12_lossesFor_110 : decode bX12_lossesFor.2.1 110 = .ok (.iconst 1, 1) := by decide +kernel
theorem dX12_lossesFor_111 : decode bX12_lossesFor.2.1 111 = .ok (.iload 5, 2) := by decide +kernel
theorem dX12_lossesFor_113 : decode bX12_lossesFor.2.1 113 = .ok (.ishl, 1) := by decide +kernel
theorem dX12_lossesFor_114 : decode bX12_lossesFor.2.1 114 = .ok (.iconst 1, 1) := by decide +kernel
theorem dX12_lossesFor_115 : decode bX12_lossesFor.2.1 115 = .ok (.iload 6, 2) := by decide +kernel
theorem dX12_lossesFor_117 : decode bX12_lossesFor.2.1 117 = .ok (.ishl, 1) := by decide +kernel
theorem dX12_lossesFor_118 : decode bX12_lossesFor.2.1 118 = .ok (.ior, 1) := by decide +kernel
theorem dX12_lossesFor_119 : decode bX12_lossesFor.2.1 119 = .ok (.iconst 1, 1) := by decide +kernel
theorem dX12_lossesFor_120 : decode bX12_lossesFor.2.1 120 = .ok (.iload 7, 2) := by decide +kernel
theorem dX12_lossesFor_122 : decode bX12_lossesFor.2.1 122 = .ok (.ishl, 1) := by decide +kernel
theorem dX12_lossesFor_123 : decode bX12_lossesFor.2.1 123 = .ok (.ior, 1) := by decide +kernel
theorem dX12_lossesFor_124 : decode bX12_lossesFor.2.1 124 = .ok (.iconst 1, 1) := by decide +kernel
theorem dX12_lossesFor_125 : decode bX12_lossesFor.2.1 125 = .ok (.iload 8, 2) := by decide +kernel
theorem dX12_lossesFor_127 : decode bX12_lossesFor.2.1 127 = .ok (.ishl, 1) := by decide +kernel
theorem dX12_lossesFor_128 : decode bX12_lossesFor.2.1 128 = .ok (.ior, 1) := by decide +kernel
theorem dX12_lossesFor_129 : decode bX12_lossesFor.2.1 129 = .ok (.iconst 1, 1) := by decide +kernel
theorem dX12_lossesFor_130 : decode bX12_lossesFor.2.1 130 = .ok (.aload_n 0, 1) := by decide +kernel
theorem dX12_lossesFor_131 : decode bX12_lossesFor.2.1 131 = .ok (.getfield 268, 3) := by decide +kernel
theorem dX12_lossesFor_134 : decode bX12_lossesFor.2.1 134 = .ok (.ishl, 1) := by decide +kernel
theorem dX12_lossesFor_135 : decode bX12_lossesFor.2.1 135 = .ok (.iconst 1, 1) := by decide +kernel
theorem dX12_lossesFor_136 : decode bX12_lossesFor.2.1 136 = .ok (.isub, 1) := by decide +kernel
theorem dX12_lossesFor_137 : decode bX12_lossesFor.2.1 137 = .ok (.iand, 1) := by decide +kernel
theorem dX12_lossesFor_138 : decode bX12_lossesFor.2.1 138 = .ok (.istore 9, 2) := by decide +kernel
theorem dX12_lossesFor_140 : decode bX12_lossesFor.2.1 140 = .ok (.iload 9, 2) := by decide +kernel
theorem dX12_lossesFor_142 : decode bX12_lossesFor.2.1 142 = .ok (.invokestatic 245, 3) := by decide +kernel
theorem dX12_lossesFor_145 : decode bX12_lossesFor.2.1 145 = .ok (.iload_n 1, 1) := by decide +kernel
theorem dX12_lossesFor_146 : decode bX12_lossesFor.2.1 146 = .ok (.if_icmp .gt 73, 3) := by decide +kernel
theorem dX12_lossesFor_149 : decode bX12_lossesFor.2.1 149 = .ok (.aload_n 0, 1) := by decide +kernel
theorem dX12_lossesFor_150 : decode bX12_lossesFor.2.1 150 = .ok (.iload 9, 2) := by decide +kernel
theorem dX12_lossesFor_152 : decode bX12_lossesFor.2.1 152 = .ok (.invokevirtual 354, 3) := by decide +kernel
theorem dX12_lossesFor_155 : decode bX12_lossesFor.2.1 155 = .ok (.iload_n 3, 1) := by decide +kernel
theorem dX12_lossesFor_156 : decode bX12_lossesFor.2.1 156 = .ok (.iconst (-1), 1) := by decide +kernel
theorem dX12_lossesFor_157 : decode bX12_lossesFor.2.1 157 = .ok (.if_icmp .ne 7, 3) := by decide +kernel
theorem dX12_lossesFor_160 : decode bX12_lossesFor.2.1 160 = .ok (.iconst 1, 1) := by decide +kernel
theorem dX12_lossesFor_161 : decode bX12_lossesFor.2.1 161 = .ok (.goto 24, 3) := by decide +kernel
theorem dX12_lossesFor_164 : decode bX12_lossesFor.2.1 164 = .ok (.iload_n 2, 1) := by decide +kernel
theorem dX12_lossesFor_165 : decode bX12_lossesFor.2.1 165 = .ok (.ifCond .eq 13, 3) := by decide +kernel
theorem dX12_lossesFor_168 : decode bX12_lossesFor.2.1 168 = .ok (.aload_n 0, 1) := by decide +kernel
theorem dX12_lossesFor_169 : decode bX12_lossesFor.2.1 169 = .ok (.getfield 330, 3) := by decide +kernel
theorem dX12_lossesFor_172 : decode bX12_lossesFor.2.1 172 = .ok (.iload 4, 2) := by decide +kernel
theorem dX12_lossesFor_174 : decode bX12_lossesFor.2.1 174 = .ok (.isub, 1) := by decide +kernel
theorem dX12_lossesFor_175 : decode bX12_lossesFor.2.1 175 = .ok (.goto 10, 3) := by decide +kernel
theorem dX12_lossesFor_178 : decode bX12_lossesFor.2.1 178 = .ok (.iload 4, 2) := by decide +kernel
theorem dX12_lossesFor_180 : decode bX12_lossesFor.2.1 180 = .ok (.aload_n 0, 1) := by decide +kernel
theorem dX12_lossesFor_181 : decode bX12_lossesFor.2.1 181 = .ok (.getfield 330, 3) := by decide +kernel
theorem dX12_lossesFor_184 : decode bX12_lossesFor.2.1 184 = .ok (.isub, 1) := by decide +kernel
theorem dX12_lossesFor_185 : decode bX12_lossesFor.2.1 185 = .ok (.istore 10, 2) := by decide +kernel
theorem dX12_lossesFor_187 : decode bX12_lossesFor.2.1 187 = .ok (.aload_n 0, 1) := by decide +kernel
theorem dX12_lossesFor_188 : decode bX12_lossesFor.2.1 188 = .ok (.getfield 336, 3) := by decide +kernel
theorem dX12_lossesFor_191 : decode bX12_lossesFor.2.1 191 = .ok (.ifCond .ne 28, 3) := by decide +kernel
theorem dX12_lossesFor_194 : decode bX12_lossesFor.2.1 194 = .ok (.iload 10, 2) := by decide +kernel
theorem dX12_lossesFor_196 : decode bX12_lossesFor.2.1 196 = .ok (.ifCond .gt 14, 3) := by decide +kernel
theorem dX12_lossesFor_199 : decode bX12_lossesFor.2.1 199 = .ok (.iload 10, 2) := by decide +kernel
theorem dX12_lossesFor_201 : decode bX12_lossesFor.2.1 201 = .ok (.ifCond .ne 18, 3) := by decide +kernel
theorem dX12_lossesFor_204 : decode bX12_lossesFor.2.1 204 = .ok (.iload 9, 2) := by decide +kernel
theorem dX12_lossesFor_206 : decode bX12_lossesFor.2.1 206 = .ok (.iload_n 3, 1) := by decide +kernel
theorem dX12_lossesFor_207 : decode bX12_lossesFor.2.1 207 = .ok (.if_icmp .ge 12, 3) := by decide +kernel
theorem dX12_lossesFor_210 : decode bX12_lossesFor.2.1 210 = .ok (.iload 9, 2) := by decide +kernel
theorem dX12_lossesFor_212 : decode bX12_lossesFor.2.1 212 = .ok (.istore_n 3, 1) := by decide +kernel
theorem dX12_lossesFor_213 : decode bX12_lossesFor.2.1 213 = .ok (.aload_n 0, 1) := by decide +kernel
theorem dX12_lossesFor_214 : decode bX12_lossesFor.2.1 214 = .ok (.getfield 330, 3) := by decide +kernel
theorem dX12_lossesFor_217 : decode bX12_lossesFor.2.1 217 = .ok (.istore 4, 2) := by decide +kernel
theorem dX12_lossesFor_219 : decode bX12_lossesFor.2.1 219 = .ok (.iinc 8 1, 3) := by decide +kernel
theorem dX12_lossesFor_222 : decode bX12_lossesFor.2.1 222 = .ok (.goto (-121), 3) := by decide +kernel
theorem dX12_lossesFor_225 : decode bX12_lossesFor.2.1 225 = .ok (.iinc 7 1, 3) := by decide +kernel
theorem dX12_lossesFor_228 : decode bX12_lossesFor.2.1 228 = .ok (.goto (-158), 3) := by decide +kernel
theorem dX12_lossesFor_231 : decode bX12_lossesFor.2.1 231 = .ok (.iinc 6 1, 3) := by decide +kernel
theorem dX12_lossesFor_234 : decode bX12_lossesFor.2.1 234 = .ok (.goto (-195), 3) := by decide +kernel
theorem dX12_lossesFor_237 : decode bX12_lossesFor.2.1 237 = .ok (.iinc 5 1, 3) := by decide +kernel
theorem dX12_lossesFor_240 : decode bX12_lossesFor.2.1 240 = .ok (.goto (-232), 3) := by decide +kernel
theorem dX12_lossesFor_243 : decode bX12_lossesFor.2.1 243 = .ok (.iload_n 3, 1) := by decide +kernel
theorem dX12_lossesFor_244 : decode bX12_lossesFor.2.1 244 = .ok (.ireturn, 1) := by decide +kernel
theorem dX12_lossesTold_0 : decode bX12_lossesTold.2.1 0 = .ok (.aload_n 0, 1) := by decide +kernel
theorem dX12_lossesTold_1 : decode bX12_lossesTold.2.1 1 = .ok (.getfield 268, 3) := by decide +kernel
theorem dX12_lossesTold_4 : decode bX12_lossesTold.2.1 4 = .ok (.ifCond .eq 21, 3) := by decide +kernel
theorem dX12_lossesTold_7 : decode bX12_lossesTold.2.1 7 = .ok (.iload_n 1, 1) := by decide +kernel
theorem dX12_lossesTold_8 : decode bX12_lossesTold.2.1 8 = .ok (.iconst 0, 1) := by decide +kernel
theorem dX12_lossesTold_9 : decode bX12_lossesTold.2.1 9 = .ok (.iconst 4, 1) := by decide +kernel
theorem dX12_lossesTold_10 : decode bX12_lossesTold.2.1 10 = .ok (.invokestatic 229, 3) := by decide +kernel
theorem dX12_lossesTold_13 : decode bX12_lossesTold.2.1 13 = .ok (.ifCond .eq 12, 3) := by decide +kernel
theorem dX12_lossesTold_16 : decode bX12_lossesTold.2.1 16 = .ok (.iload_n 2, 1) := by decide +kernel
theorem dX12_lossesTold_17 : decode bX12_lossesTold.2.1 17 = .ok (.iconst 0, 1) := by decide +kernel
theorem dX12_lossesTold_18 : decode bX12_lossesTold.2.1 18 = .ok (.iconst 1, 1) := by decide +kernel
theorem dX12_lossesTold_19 : decode bX12_lossesTold.2.1 19 = .ok (.invokestatic 229, 3) := by decide +kernel
theorem dX12_lossesTold_22 : decode bX12_lossesTold.2.1 22 = .ok (.ifCond .ne 5, 3) := by decide +kernel
theorem dX12_lossesTold_25 : decode bX12_lossesTold.2.1 25 = .ok (.iconst (-1), 1) := by decide +kernel
theorem dX12_lossesTold_26 : decode bX12_lossesTold.2.1 26 = .ok (.ireturn, 1) := by decide +kernel
theorem dX12_lossesTold_27 : decode bX12_lossesTold.2.1 27 = .ok (.aload_n 0, 1) := by decide +kernel
theorem dX12_lossesTold_28 : decode bX12_lossesTold.2.1 28 = .ok (.iload_n 1, 1) := by decide +kernel
theorem dX12_lossesTold_29 : decode bX12_lossesTold.2.1 29 = .ok (.iload_n 3, 1) := by decide +kernel
theorem dX12_lossesTold_30 : decode bX12_lossesTold.2.1 30 = .ok (.invokevirtual 426, 3) := by decide +kernel
theorem dX12_lossesTold_33 : decode bX12_lossesTold.2.1 33 = .ok (.istore 4, 2) := by decide +kernel
theorem dX12_lossesTold_35 : decode bX12_lossesTold.2.1 35 = .ok (.iload 4, 2) := by decide +kernel
theorem dX12_lossesTold_37 : decode bX12_lossesTold.2.1 37 = .ok (.iconst (-1), 1) := by decide +kernel
theorem dX12_lossesTold_38 : decode bX12_lossesTold.2.1 38 = .ok (.if_icmp .eq 8, 3) := by decide +kernel
theorem dX12_lossesTold_41 : decode bX12_lossesTold.2.1 41 = .ok (.iload_n 2, 1) := by decide +kernel
theorem dX12_lossesTold_42 : decode bX12_lossesTold.2.1 42 = .ok (.iconst 1, 1) := by decide +kernel
theorem dX12_lossesTold_43 : decode bX12_lossesTold.2.1 43 = .ok (.if_icmp .ne 6, 3) := by decide +kernel
theorem dX12_lossesTold_46 : decode bX12_lossesTold.2.1 46 = .ok (.iload 4, 2) := by decide +kernel
theorem dX12_lossesTold_48 : decode bX12_lossesTold.2.1 48 = .ok (.ireturn, 1) := by decide +kernel
theorem dX12_lossesTold_49 : decode bX12_lossesTold.2.1 49 = .ok (.aload_n 0, 1) := by decide +kernel
theorem dX12_lossesTold_50 : decode bX12_lossesTold.2.1 50 = .ok (.iload 4, 2) := by decide +kernel
theorem dX12_lossesTold_52 : decode bX12_lossesTold.2.1 52 = .ok (.invokevirtual 354, 3) := by decide +kernel
theorem dX12_lossesTold_55 : decode bX12_lossesTold.2.1 55 = .ok (.aload_n 0, 1) := by decide +kernel
theorem dX12_lossesTold_56 : decode bX12_lossesTold.2.1 56 = .ok (.getfield 330, 3) := by decide +kernel
theorem dX12_lossesTold_59 : decode bX12_lossesTold.2.1 59 = .ok (.ireturn, 1) := by decide +kernel
theorem dX12_shortest_0 : decode bX12_shortest.2.1 0 = .ok (.aload_n 0, 1) := by decide +kernel
theorem dX12_shortest_1 : decode bX12_shortest.2.1 1 = .ok (.iload_n 1, 1) := by decide +kernel
theorem dX12_shortest_2 : decode bX12_shortest.2.1 2 = .ok (.iload_n 2, 1) := by decide +kernel
theorem dX12_shortest_3 : decode bX12_shortest.2.1 3 = .ok (.iconst 0, 1) := by decide +kernel
theorem dX12_shortest_4 : decode bX12_shortest.2.1 4 = .ok (.invokevirtual 430, 3) := by decide +kernel
theorem dX12_shortest_7 : decode bX12_shortest.2.1 7 = .ok (.ireturn, 1) := by decide +kernel
theorem dX12_longest_0 : decode bX12_longest.2.1 0 = .ok (.aload_n 0, 1) := by decide +kernel
theorem dX12_longest_1 : decode bX12_longest.2.1 1 = .ok (.iload_n 1, 1) := by decide +kernel
theorem dX12_longest_2 : decode bX12_longest.2.1 2 = .ok (.iload_n 2, 1) := by decide +kernel
theorem dX12_longest_3 : decode bX12_longest.2.1 3 = .ok (.iconst 1, 1) := by decide +kernel
theorem dX12_longest_4 : decode bX12_longest.2.1 4 = .ok (.invokevirtual 430, 3) := by decide +kernel
theorem dX12_longest_7 : decode bX12_longest.2.1 7 = .ok (.ireturn, 1) := by decide +kernel
theorem dX12_trial_0 : decode bX12_trial.2.1 0 = .ok (.aload_n 0, 1) := by decide +kernel
theorem dX12_trial_1 : decode bX12_trial.2.1 1 = .ok (.getfield 268, 3) := by decide +kernel
theorem dX12_trial_4 : decode bX12_trial.2.1 4 = .ok (.ifCond .eq 22, 3) := by decide +kernel
theorem dX12_trial_7 : decode bX12_trial.2.1 7 = .ok (.iload_n 1, 1) := by decide +kernel
theorem dX12_trial_8 : decode bX12_trial.2.1 8 = .ok (.iconst 1, 1) := by decide +kernel
theorem dX12_trial_9 : decode bX12_trial.2.1 9 = .ok (.bipush 50, 2) := by decide +kernel
theorem dX12_trial_11 : decode bX12_trial.2.1 11 = .ok (.invokestatic 229, 3) := by decide +kernel
theorem dX12_trial_14 : decode bX12_trial.2.1 14 = .ok (.ifCond .eq 12, 3) := by decide +kernel
theorem dX12_trial_17 : decode bX12_trial.2.1 17 = .ok (.iload_n 2, 1) := by decide +kernel
theorem dX12_trial_18 : decode bX12_trial.2.1 18 = .ok (.iconst 0, 1) := by decide +kernel
theorem dX12_trial_19 : decode bX12_trial.2.1 19 = .ok (.iconst 2, 1) := by decide +kernel
theorem dX12_trial_20 : decode bX12_trial.2.1 20 = .ok (.invokestatic 229, 3) := by decide +kernel
theorem dX12_trial_23 : decode bX12_trial.2.1 23 = .ok (.ifCond .ne 5, 3) := by decide +kernel
theorem dX12_trial_26 : decode bX12_trial.2.1 26 = .ok (.iconst (-1), 1) := by decide +kernel
theorem dX12_trial_27 : decode bX12_trial.2.1 27 = .ok (.ireturn, 1) := by decide +kernel
theorem dX12_trial_28 : decode bX12_trial.2.1 28 = .ok (.iconst 0, 1) := by decide +kernel
theorem dX12_trial_29 : decode bX12_trial.2.1 29 = .ok (.istore_n 3, 1) := by decide +kernel
theorem dX12_trial_30 : decode bX12_trial.2.1 30 = .ok (.iconst 0, 1) := by decide +kernel
theorem dX12_trial_31 : decode bX12_trial.2.1 31 = .ok (.istore 4, 2) := by decide +kernel
theorem dX12_trial_33 : decode bX12_trial.2.1 33 = .ok (.iload 4, 2) := by decide +kernel
theorem dX12_trial_35 : decode bX12_trial.2.1 35 = .ok (.iload_n 1, 1) := by decide +kernel
theorem dX12_trial_36 : decode bX12_trial.2.1 36 = .ok (.if_icmp .ge 54, 3) := by decide +kernel
theorem dX12_trial_39 : decode bX12_trial.2.1 39 = .ok (.aload_n 0, 1) := by decide +kernel
theorem dX12_trial_40 : decode bX12_trial.2.1 40 = .ok (.iload 4, 2) := by decide +kernel
theorem dX12_trial_42 : decode bX12_trial.2.1 42 = .ok (.i2l, 1) := by decide +kernel
theorem dX12_trial_43 : decode bX12_trial.2.1 43 = .ok (.invokevirtual 382, 3) := by decide +kernel
theorem dX12_trial_46 : decode bX12_trial.2.1 46 = .ok (.iload_n 3, 1) := by decide +kernel
theorem dX12_trial_47 : decode bX12_trial.2.1 47 = .ok (.iload_n 2, 1) := by decide +kernel
theorem dX12_trial_48 : decode bX12_trial.2.1 48 = .ok (.ifCond .ne 18, 3) := by decide +kernel
theorem dX12_trial_51 : decode bX12_trial.2.1 51 = .ok (.aload_n 0, 1) := by decide +kernel
theorem dX12_trial_52 : decode bX12_trial.2.1 52 = .ok (.getfield 336, 3) := by decide +kernel
theorem dX12_trial_55 : decode bX12_trial.2.1 55 = .ok (.ifCond .ne 7, 3) := by decide +kernel
theorem dX12_trial_58 : decode bX12_trial.2.1 58 = .ok (.iconst 1, 1) := by decide +kernel
theorem dX12_trial_59 : decode bX12_trial.2.1 59 = .ok (.goto 23, 3) := by decide +kernel
theorem dX12_trial_62 : decode bX12_trial.2.1 62 = .ok (.iconst 0, 1) := by decide +kernel
theorem dX12_trial_63 : decode bX12_trial.2.1 63 = .ok (.goto 19, 3) := by decide +kernel
theorem dX12_trial_66 : decode bX12_trial.2.1 66 = .ok (.iload_n 2, 1) := by decide +kernel
theorem dX12_trial_67 : decode bX12_trial.2.1 67 = .ok (.iconst 1, 1) := by decide +kernel
theorem dX12_trial_68 : decode bX12_trial.2.1 68 = .ok (.if_icmp .ne 10, 3) := by decide +kernel
theorem dX12_trial_71 : decode bX12_trial.2.1 71 = .ok (.aload_n 0, 1) := by decide +kernel
theorem dX12_trial_72 : decode bX12_trial.2.1 72 = .ok (.getfield 333, 3) := by decide +kernel
theorem dX12_trial_75 : decode bX12_trial.2.1 75 = .ok (.goto 7, 3) := by decide +kernel
theorem dX12_trial_78 : decode bX12_trial.2.1 78 = .ok (.aload_n 0, 1) := by decide +kernel
theorem dX12_trial_79 : decode bX12_trial.2.1 79 = .ok (.getfield 367, 3) := by decide +kernel
theorem dX12_trial_82 : decode bX12_trial.2.1 82 = .ok (.iadd, 1) := by decide +kernel
theorem dX12_trial_83 : decode bX12_trial.2.1 83 = .ok (.istore_n 3, 1) := by decide +kernel
theorem dX12_trial_84 : decode bX12_trial.2.1 84 = .ok (.iinc 4 1, 3) := by decide +kernel
theorem dX12_trial_87 : decode bX12_trial.2.1 87 = .ok (.goto (-54), 3) := by decide +kernel
theorem dX12_trial_90 : decode bX12_trial.2.1 90 = .ok (.iload_n 3, 1) := by decide +kernel
theorem dX12_trial_91 : decode bX12_trial.2.1 91 = .ok (.ireturn, 1) := by decide +kernel
theorem dX12_doubtful_0 : decode bX12_doubtful.2.1 0 = .ok (.aload_n 0, 1) := by decide +kernel
theorem dX12_doubtful_1 : decode bX12_doubtful.2.1 1 = .ok (.getfield 268, 3) := by decide +kernel
theorem dX12_doubtful_4 : decode bX12_doubtful.2.1 4 = .ok (.ifCond .eq 10, 3) := by decide +kernel
theorem dX12_doubtful_7 : decode bX12_doubtful.2.1 7 = .ok (.iload_n 1, 1) := by decide +kernel
theorem dX12_doubtful_8 : decode bX12_doubtful.2.1 8 = .ok (.invokestatic 323, 3) := by decide +kernel
theorem dX12_doubtful_11 : decode bX12_doubtful.2.1 11 = .ok (.ifCond .ne 5, 3) := by decide +kernel
theorem dX12_doubtful_14 : decode bX12_doubtful.2.1 14 = .ok (.iconst (-1), 1) := by decide +kernel
theorem dX12_doubtful_15 : decode bX12_doubtful.2.1 15 = .ok (.ireturn, 1) := by decide +kernel
theorem dX12_doubtful_16 : decode bX12_doubtful.2.1 16 = .ok (.iconst 0, 1) := by decide +kernel
theorem dX12_doubtful_17 : decode bX12_doubtful.2.1 17 = .ok (.istore_n 2, 1) := by decide +kernel
theorem dX12_doubtful_18 : decode bX12_doubtful.2.1 18 = .ok (.iconst 0, 1) := by decide +kernel
theorem dX12_doubtful_19 : decode bX12_doubtful.2.1 19 = .ok (.istore_n 3, 1) := by decide +kernel
theorem dX12_doubtful_20 : decode bX12_doubtful.2.1 20 = .ok (.iload_n 3, 1) := by decide +kernel
theorem dX12_doubtful_21 : decode bX12_doubtful.2.1 21 = .ok (.aload_n 0, 1) := by decide +kernel
theorem dX12_doubtful_22 : decode bX12_doubtful.2.1 22 = .ok (.getfield 268, 3) := by decide +kernel
theorem dX12_doubtful_25 : decode bX12_doubtful.2.1 25 = .ok (.if_icmp .ge 35, 3) := by decide +kernel
theorem dX12_doubtful_28 : decode bX12_doubtful.2.1 28 = .ok (.iload_n 2, 1) := by decide +kernel
theorem dX12_doubtful_29 : decode bX12_doubtful.2.1 29 = .ok (.aload_n 0, 1) := by decide +kernel
theorem dX12_doubtful_30 : decode bX12_doubtful.2.1 30 = .ok (.getfield 49, 3) := by decide +kernel
theorem dX12_doubtful_33 : decode bX12_doubtful.2.1 33 = .ok (.iload_n 3, 1) := by decide +kernel
theorem dX12_doubtful_34 : decode bX12_doubtful.2.1 34 = .ok (.iaload, 1) := by decide +kernel
theorem dX12_doubtful_35 : decode bX12_doubtful.2.1 35 = .ok (.iload_n 1, 1) := by decide +kernel
theorem dX12_doubtful_36 : decode bX12_doubtful.2.1 36 = .ok (.if_icmp .ne 15, 3) := by decide +kernel
theorem dX12_doubtful_39 : decode bX12_doubtful.2.1 39 = .ok (.aload_n 0, 1) := by decide +kernel
theorem dX12_doubtful_40 : decode bX12_doubtful.2.1 40 = .ok (.iload_n 3, 1) := by decide +kernel
theorem dX12_doubtful_41 : decode bX12_doubtful.2.1 41 = .ok (.invokevirtual 306, 3) := by decide +kernel
theorem dX12_doubtful_44 : decode bX12_doubtful.2.1 44 = .ok (.ifCond .le 7, 3) := by decide +kernel
theorem dX12_doubtful_47 : decode bX12_doubtful.2.1 47 = .ok (.iconst 1, 1) := by decide +kernel
theorem dX12_doubtful_48 : decode bX12_doubtful.2.1 48 = .ok (.goto 4, 3) := by decide +kernel
theorem dX12_doubtful_51 : decode bX12_doubtful.2.1 51 = .ok (.iconst 0, 1) := by decide +kernel
theorem dX12_doubtful_52 : decode bX12_doubtful.2.1 52 = .ok (.iadd, 1) := by decide +kernel
theorem dX12_doubtful_53 : decode bX12_doubtful.2.1 53 = .ok (.istore_n 2, 1) := by decide +kernel
theorem dX12_doubtful_54 : decode bX12_doubtful.2.1 54 = .ok (.iinc 3 1, 3) := by decide +kernel
theorem dX12_doubtful_57 : decode bX12_doubtful.2.1 57 = .ok (.goto (-37), 3) := by decide +kernel
theorem dX12_doubtful_60 : decode bX12_doubtful.2.1 60 = .ok (.iload_n 2, 1) := by decide +kernel
theorem dX12_doubtful_61 : decode bX12_doubtful.2.1 61 = .ok (.ireturn, 1) := by decide +kernel
theorem dX12_reword_0 : decode bX12_reword.2.1 0 = .ok (.aload_n 0, 1) := by decide +kernel
theorem dX12_reword_1 : decode bX12_reword.2.1 1 = .ok (.getfield 268, 3) := by decide +kernel
theorem dX12_reword_4 : decode bX12_reword.2.1 4 = .ok (.ifCond .eq 12, 3) := by decide +kernel
theorem dX12_reword_7 : decode bX12_reword.2.1 7 = .ok (.iload_n 1, 1) := by decide +kernel
theorem dX12_reword_8 : decode bX12_reword.2.1 8 = .ok (.iconst 0, 1) := by decide +kernel
theorem dX12_reword_9 : decode bX12_reword.2.1 9 = .ok (.iconst 1, 1) := by decide +kernel
theorem dX12_reword_10 : decode bX12_reword.2.1 10 = .ok (.invokestatic 229, 3) := by decide +kernel
theorem dX12_reword_13 : decode bX12_reword.2.1 13 = .ok (.ifCond .ne 7, 3) := by decide +kernel
theorem dX12_reword_16 : decode bX12_reword.2.1 16 = .ok (.ldc_w 329, 3) := by decide +kernel
theorem dX12_reword_19 : decode bX12_reword.2.1 19 = .ok (.ireturn, 1) := by decide +kernel
theorem dX12_reword_20 : decode bX12_reword.2.1 20 = .ok (.iconst 0, 1) := by decide +kernel
theorem dX12_reword_21 : decode bX12_reword.2.1 21 = .ok (.istore_n 2, 1) := by decide +kernel
theorem dX12_reword_22 : decode bX12_reword.2.1 22 = .ok (.iconst (-1), 1) := by decide +kernel
theorem dX12_reword_23 : decode bX12_reword.2.1 23 = .ok (.istore_n 3, 1) := by decide +kernel
theorem dX12_reword_24 : decode bX12_reword.2.1 24 = .ok (.iconst 1, 1) := by decide +kernel
theorem dX12_reword_25 : decode bX12_reword.2.1 25 = .ok (.istore 4, 2) := by decide +kernel
theorem dX12_reword_27 : decode bX12_reword.2.1 27 = .ok (.iload 4, 2) := by decide +kernel
theorem dX12_reword_29 : decode bX12_reword.2.1 29 = .ok (.aload_n 0, 1) := by decide +kernel
theorem dX12_reword_30 : decode bX12_reword.2.1 30 = .ok (.getfield 268, 3) := by decide +kernel
theorem dX12_reword_33 : decode bX12_reword.2.1 33 = .ok (.if_icmp .ge 83, 3) := by decide +kernel
theorem dX12_reword_36 : decode bX12_reword.2.1 36 = .ok (.iconst 0, 1) := by decide +kernel
theorem dX12_reword_37 : decode bX12_reword.2.1 37 = .ok (.istore 5, 2) := by decide +kernel
theorem dX12_reword_39 : decode bX12_reword.2.1 39 = .ok (.iconst 0, 1) := by decide +kernel
theorem dX12_reword_40 : decode bX12_reword.2.1 40 = .ok (.istore 6, 2) := by decide +kernel
theorem dX12_reword_42 : decode bX12_reword.2.1 42 = .ok (.iload 6, 2) := by decide +kernel
theorem dX12_reword_44 : decode bX12_reword.2.1 44 = .ok (.iload 4, 2) := by decide +kernel
theorem dX12_reword_46 : decode bX12_reword.2.1 46 = .ok (.if_icmp .ge 32, 3) := by decide +kernel
theorem dX12_reword_49 : decode bX12_reword.2.1 49 = .ok (.iload 5, 2) := by decide +kernel
theorem dX12_reword_51 : decode bX12_reword.2.1 51 = .ok (.ifCond .ne 14, 3) := by decide +kernel
theorem dX12_reword_54 : decode bX12_reword.2.1 54 = .ok (.aload_n 0, 1) := by decide +kernel
theorem dX12_reword_55 : decode bX12_reword.2.1 55 = .ok (.iload 4, 2) := by decide +kernel
theorem dX12_reword_57 : decode bX12_reword.2.1 57 = .ok (.iload 6, 2) := by decide +kernel
theorem dX12_reword_59 : decode bX12_reword.2.1 59 = .ok (.invokevirtual 300, 3) := by decide +kernel
theorem dX12_reword_62 : decode bX12_reword.2.1 62 = .ok (.ifCond .eq 7, 3) := by decide +kernel
theorem dX12_reword_65 : decode bX12_reword.2.1 65 = .ok (.iconst 1, 1) := by decide +kernel
theorem dX12_reword_66 : decode bX12_reword.2.1 66 = .ok (.goto 4, 3) := by decide +kernel
theorem dX12_reword_69 : decode bX12_reword.2.1 69 = .ok (.iconst 0, 1) := by decide +kernel
theorem dX12_reword_70 : decode bX12_reword.2.1 70 = .ok (.istore 5, 2) := by decide +kernel
theorem dX12_reword_72 : decode bX12_reword.2.1 72 = .ok (.iinc 6 1, 3) := by decide +kernel
theorem dX12_reword_75 : decode bX12_reword.2.1 75 = .ok (.goto (-33), 3) := by decide +kernel
theorem dX12_reword_78 : decode bX12_reword.2.1 78 = .ok (.iload 5, 2) := by decide +kernel
theorem dX12_reword_80 : decode bX12_reword.2.1 80 = .ok (.ifCond .eq 15, 3) := by decide +kernel
theorem dX12_reword_83 : decode bX12_reword.2.1 83 = .ok (.iload_n 3, 1) := by decide +kernel
theorem dX12_reword_84 : decode bX12_reword.2.1 84 = .ok (.iconst (-1), 1) := by decide +kernel
theorem dX12_reword_85 : decode bX12_reword.2.1 85 = .ok (.if_icmp .ne 10, 3) := by decide +kernel
theorem dX12_reword_88 : decode bX12_reword.2.1 88 = .ok (.iload 4, 2) := by decide +kernel
theorem dX12_reword_90 : decode bX12_reword.2.1 90 = .ok (.iconst 1, 1) := by decide +kernel
theorem dX12_reword_91 : decode bX12_reword.2.1 91 = .ok (.isub, 1) := by decide +kernel
theorem dX12_reword_92 : decode bX12_reword.2.1 92 = .ok (.goto 4, 3) := by decide +kernel
theorem dX12_reword_95 : decode bX12_reword.2.1 95 = .ok (.iload_n 3, 1) := by decide +kernel
theorem dX12_reword_96 : decode bX12_reword.2.1 96 = .ok (.istore_n 3, 1) := by decide +kernel
theorem dX12_reword_97 : decode bX12_reword.2.1 97 = .ok (.iload_n 2, 1) := by decide +kernel
theorem dX12_reword_98 : decode bX12_reword.2.1 98 = .ok (.iload 5, 2) := by decide +kernel
theorem dX12_reword_100 : decode bX12_reword.2.1 100 = .ok (.ifCond .eq 7, 3) := by decide +kernel
theorem dX12_reword_103 : decode bX12_reword.2.1 103 = .ok (.iconst 1, 1) := by decide +kernel
theorem dX12_reword_104 : decode bX12_reword.2.1 104 = .ok (.goto 4, 3) := by decide +kernel
theorem dX12_reword_107 : decode bX12_reword.2.1 107 = .ok (.iconst 0, 1) := by decide +kernel
theorem dX12_reword_108 : decode bX12_reword.2.1 108 = .ok (.iadd, 1) := by decide +kernel
theorem dX12_reword_109 : decode bX12_reword.2.1 109 = .ok (.istore_n 2, 1) := by decide +kernel
theorem dX12_reword_110 : decode bX12_reword.2.1 110 = .ok (.iinc 4 1, 3) := by decide +kernel
theorem dX12_reword_113 : decode bX12_reword.2.1 113 = .ok (.goto (-86), 3) := by decide +kernel
theorem dX12_reword_116 : decode bX12_reword.2.1 116 = .ok (.iload_n 1, 1) := by decide +kernel
theorem dX12_reword_117 : decode bX12_reword.2.1 117 = .ok (.ifCond .ne 7, 3) := by decide +kernel
theorem dX12_reword_120 : decode bX12_reword.2.1 120 = .ok (.iload_n 2, 1) := by decide +kernel
theorem dX12_reword_121 : decode bX12_reword.2.1 121 = .ok (.goto 4, 3) := by decide +kernel
theorem dX12_reword_124 : decode bX12_reword.2.1 124 = .ok (.iload_n 3, 1) := by decide +kernel
theorem dX12_reword_125 : decode bX12_reword.2.1 125 = .ok (.ireturn, 1) := by decide +kernel
theorem dX12_image_0 : decode bX12_image.2.1 0 = .ok (.aload_n 0, 1) := by decide +kernel
theorem dX12_image_1 : decode bX12_image.2.1 1 = .ok (.getfield 268, 3) := by decide +kernel
theorem dX12_image_4 : decode bX12_image.2.1 4 = .ok (.ifCond .ne 5, 3) := by decide +kernel
theorem dX12_image_7 : decode bX12_image.2.1 7 = .ok (.iconst (-1), 1) := by decide +kernel
theorem dX12_image_8 : decode bX12_image.2.1 8 = .ok (.ireturn, 1) := by decide +kernel
theorem dX12_image_9 : decode bX12_image.2.1 9 = .ok (.iconst 0, 1) := by decide +kernel
theorem dX12_image_10 : decode bX12_image.2.1 10 = .ok (.istore_n 1, 1) := by decide +kernel
theorem dX12_image_11 : decode bX12_image.2.1 11 = .ok (.iload_n 1, 1) := by decide +kernel
theorem dX12_image_12 : decode bX12_image.2.1 12 = .ok (.aload_n 0, 1) := by decide +kernel
theorem dX12_image_13 : decode bX12_image.2.1 13 = .ok (.getfield 268, 3) := by decide +kernel
theorem dX12_image_16 : decode bX12_image.2.1 16 = .ok (.if_icmp .ge 21, 3) := by decide +kernel
theorem dX12_image_19 : decode bX12_image.2.1 19 = .ok (.aload_n 0, 1) := by decide +kernel
theorem dX12_image_20 : decode bX12_image.2.1 20 = .ok (.getfield 111, 3) := by decide +kernel
theorem dX12_image_23 : decode bX12_image.2.1 23 = .ok (.iload_n 1, 1) := by decide +kernel
theorem dX12_image_24 : decode bX12_image.2.1 24 = .ok (.aload_n 0, 1) := by decide +kernel
theorem dX12_image_25 : decode bX12_image.2.1 25 = .ok (.getfield 71, 3) := by decide +kernel
theorem dX12_image_28 : decode bX12_image.2.1 28 = .ok (.iload_n 1, 1) := by decide +kernel
theorem dX12_image_29 : decode bX12_image.2.1 29 = .ok (.iaload, 1) := by decide +kernel
theorem dX12_image_30 : decode bX12_image.2.1 30 = .ok (.iastore, 1) := by decide +kernel
theorem dX12_image_31 : decode bX12_image.2.1 31 = .ok (.iinc 1 1, 3) := by decide +kernel
theorem dX12_image_34 : decode bX12_image.2.1 34 = .ok (.goto (-23), 3) := by decide +kernel
theorem dX12_image_37 : decode bX12_image.2.1 37 = .ok (.aload_n 0, 1) := by decide +kernel
theorem dX12_image_38 : decode bX12_image.2.1 38 = .ok (.aload_n 0, 1) := by decide +kernel
theorem dX12_image_39 : decode bX12_image.2.1 39 = .ok (.getfield 275, 3) := by decide +kernel
theorem dX12_image_42 : decode bX12_image.2.1 42 = .ok (.putfield 434, 3) := by decide +kernel
theorem dX12_image_45 : decode bX12_image.2.1 45 = .ok (.aload_n 0, 1) := by decide +kernel
theorem dX12_image_46 : decode bX12_image.2.1 46 = .ok (.iconst 1, 1) := by decide +kernel
theorem dX12_image_47 : decode bX12_image.2.1 47 = .ok (.putfield 284, 3) := by decide +kernel
theorem dX12_image_50 : decode bX12_image.2.1 50 = .ok (.aload_n 0, 1) := by decide +kernel
theorem dX12_image_51 : decode bX12_image.2.1 51 = .ok (.getfield 275, 3) := by decide +kernel
theorem dX12_image_54 : decode bX12_image.2.1 54 = .ok (.invokestatic 245, 3) := by decide +kernel
theorem dX12_image_57 : decode bX12_image.2.1 57 = .ok (.ireturn, 1) := by decide +kernel
theorem dX12_back_0 : decode bX12_back.2.1 0 = .ok (.aload_n 0, 1) := by decide +kernel
theorem dX12_back_1 : decode bX12_back.2.1 1 = .ok (.getfield 284, 3) := by decide +kernel
theorem dX12_back_4 : decode bX12_back.2.1 4 = .ok (.ifCond .ne 5, 3) := by decide +kernel
theorem dX12_back_7 : decode bX12_back.2.1 7 = .ok (.iconst (-1), 1) := by decide +kernel
theorem dX12_back_8 : decode bX12_back.2.1 8 = .ok (.ireturn, 1) := by decide +kernel
theorem dX12_back_9 : decode bX12_back.2.1 9 = .ok (.iconst 0, 1) := by decide +kernel
theorem dX12_back_10 : decode bX12_back.2.1 10 = .ok (.istore_n 1, 1) := by decide +kernel
theorem dX12_back_11 : decode bX12_back.2.1 11 = .ok (.iload_n 1, 1) := by decide +kernel
theorem dX12_back_12 : decode bX12_back.2.1 12 = .ok (.aload_n 0, 1) := by decide +kernel
theorem dX12_back_13 : decode bX12_back.2.1 13 = .ok (.getfield 268, 3) := by decide +kernel
theorem dX12_back_16 : decode bX12_back.2.1 16 = .ok (.if_icmp .ge 21, 3) := by decide +kernel
theorem dX12_back_19 : decode bX12_back.2.1 19 = .ok (.aload_n 0, 1) := by decide +kernel
theorem dX12_back_20 : decode bX12_back.2.1 20 = .ok (.getfield 71, 3) := by decide +kernel
theorem dX12_back_23 : decode bX12_back.2.1 23 = .ok (.iload_n 1, 1) := by decide +kernel
theorem dX12_back_24 : decode bX12_back.2.1 24 = .ok (.aload_n 0, 1) := by decide +kernel
theorem dX12_back_25 : decode bX12_back.2.1 25 = .ok (.getfield 111, 3) := by decide +kernel
theorem dX12_back_28 : decode bX12_back.2.1 28 = .ok (.iload_n 1, 1) := by decide +kernel
theorem dX12_back_29 : decode bX12_back.2.1 29 = .ok (.iaload, 1) := by decide +kernel
theorem dX12_back_30 : decode bX12_back.2.1 30 = .ok (.iastore, 1) := by decide +kernel
theorem dX12_back_31 : decode bX12_back.2.1 31 = .ok (.iinc 1 1, 3) := by decide +kernel
theorem dX12_back_34 : decode bX12_back.2.1 34 = .ok (.goto (-23), 3) := by decide +kernel
theorem dX12_back_37 : decode bX12_back.2.1 37 = .ok (.aload_n 0, 1) := by decide +kernel
theorem dX12_back_38 : decode bX12_back.2.1 38 = .ok (.aload_n 0, 1) := by decide +kernel
theorem dX12_back_39 : decode bX12_back.2.1 39 = .ok (.getfield 434, 3) := by decide +kernel
theorem dX12_back_42 : decode bX12_back.2.1 42 = .ok (.putfield 275, 3) := by decide +kernel
theorem dX12_back_45 : decode bX12_back.2.1 45 = .ok (.aload_n 0, 1) := by decide +kernel
theorem dX12_back_46 : decode bX12_back.2.1 46 = .ok (.getfield 275, 3) := by decide +kernel
theorem dX12_back_49 : decode bX12_back.2.1 49 = .ok (.invokestatic 245, 3) := by decide +kernel
theorem dX12_back_52 : decode bX12_back.2.1 52 = .ok (.ireturn, 1) := by decide +kernel
theorem dX12_count_0 : decode bX12_count.2.1 0 = .ok (.iload_n 1, 1) := by decide +kernel
theorem dX12_count_1 : decode bX12_count.2.1 1 = .ok (.tableswitch 93 0 7 #[47, 52, 57, 62, 67, 72, 77, 85], 47) := by decide +kernel
theorem dX12_count_48 : decode bX12_count.2.1 48 = .ok (.aload_n 0, 1) := by decide +kernel
theorem dX12_count_49 : decode bX12_count.2.1 49 = .ok (.getfield 265, 3) := by decide +kernel
theorem dX12_count_52 : decode bX12_count.2.1 52 = .ok (.ireturn, 1) := by decide +kernel
theorem dX12_count_53 : decode bX12_count.2.1 53 = .ok (.aload_n 0, 1) := by decide +kernel
theorem dX12_count_54 : decode bX12_count.2.1 54 = .ok (.getfield 268, 3) := by decide +kernel
theorem dX12_count_57 : decode bX12_count.2.1 57 = .ok (.ireturn, 1) := by decide +kernel
theorem dX12_count_58 : decode bX12_count.2.1 58 = .ok (.aload_n 0, 1) := by decide +kernel
theorem dX12_count_59 : decode bX12_count.2.1 59 = .ok (.getfield 294, 3) := by decide +kernel
theorem dX12_count_62 : decode bX12_count.2.1 62 = .ok (.ireturn, 1) := by decide +kernel
theorem dX12_count_63 : decode bX12_count.2.1 63 = .ok (.aload_n 0, 1) := by decide +kernel
theorem dX12_count_64 : decode bX12_count.2.1 64 = .ok (.getfield 121, 3) := by decide +kernel
theorem dX12_count_67 : decode bX12_count.2.1 67 = .ok (.ireturn, 1) := by decide +kernel
theorem dX12_count_68 : decode bX12_count.2.1 68 = .ok (.aload_n 0, 1) := by decide +kernel
theorem dX12_count_69 : decode bX12_count.2.1 69 = .ok (.getfield 61, 3) := by decide +kernel
theorem dX12_count_72 : decode bX12_count.2.1 72 = .ok (.ireturn, 1) := by decide +kernel
theorem dX12_count_73 : decode bX12_count.2.1 73 = .ok (.aload_n 0, 1) := by decide +kernel
theorem dX12_count_74 : decode bX12_count.2.1 74 = .ok (.getfield 278, 3) := by decide +kernel
theorem dX12_count_77 : decode bX12_count.2.1 77 = .ok (.ireturn, 1) := by decide +kernel
theorem dX12_count_78 : decode bX12_count.2.1 78 = .ok (.aload_n 0, 1) := by decide +kernel
theorem dX12_count_79 : decode bX12_count.2.1 79 = .ok (.getfield 275, 3) := by decide +kernel
theorem dX12_count_82 : decode bX12_count.2.1 82 = .ok (.invokestatic 245, 3) := by decide +kernel
theorem dX12_count_85 : decode bX12_count.2.1 85 = .ok (.ireturn, 1) := by decide +kernel
theorem dX12_count_86 : decode bX12_count.2.1 86 = .ok (.aload_n 0, 1) := by decide +kernel
theorem dX12_count_87 : decode bX12_count.2.1 87 = .ok (.getfield 281, 3) := by decide +kernel
theorem dX12_count_90 : decode bX12_count.2.1 90 = .ok (.invokestatic 245, 3) := by decide +kernel
theorem dX12_count_93 : decode bX12_count.2.1 93 = .ok (.ireturn, 1) := by decide +kernel
theorem dX12_count_94 : decode bX12_count.2.1 94 = .ok (.ldc_w 329, 3) := by decide +kernel
theorem dX12_count_97 : decode bX12_count.2.1 97 = .ok (.ireturn, 1) := by decide +kernel
