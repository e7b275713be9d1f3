theorem dX7_init_0 : decode cX7_init 0 = .ok (.aload_n 0, 1) := by decide +kernel
theorem dX7_init_1 : decode cX7_init 1 = .ok (.invokespecial 1, 3) := by decide +kernel
theorem dX7_init_4 : decode cX7_init 4 = .ok (.aload_n 0, 1) := by decide +kernel
theorem dX7_init_5 : decode cX7_init 5 = .ok (.bipush 12, 2) := by decide +kernel
theorem dX7_init_7 : decode cX7_init 7 = .ok (.newarray .int, 2) := by decide +kernel
theorem dX7_init_9 : decode cX7_init 9 = .ok (.putfield 7, 3) := by decide +kernel
theorem dX7_init_12 : decode cX7_init 12 = .ok (.aload_n 0, 1) := by decide +kernel
theorem dX7_init_13 : decode cX7_init 13 = .ok (.bipush 12, 2) := by decide +kernel
theorem dX7_init_15 : decode cX7_init 15 = .ok (.newarray .int, 2) := by decide +kernel
theorem dX7_init_17 : decode cX7_init 17 = .ok (.putfield 13, 3) := by decide +kernel
theorem dX7_init_20 : decode cX7_init 20 = .ok (.aload_n 0, 1) := by decide +kernel
theorem dX7_init_21 : decode cX7_init 21 = .ok (.bipush 12, 2) := by decide +kernel
theorem dX7_init_23 : decode cX7_init 23 = .ok (.newarray .int, 2) := by decide +kernel
theorem dX7_init_25 : decode cX7_init 25 = .ok (.putfield 16, 3) := by decide +kernel
theorem dX7_init_28 : decode cX7_init 28 = .ok (.aload_n 0, 1) := by decide +kernel
theorem dX7_init_29 : decode cX7_init 29 = .ok (.bipush 12, 2) := by decide +kernel
theorem dX7_init_31 : decode cX7_init 31 = .ok (.newarray .int, 2) := by decide +kernel
theorem dX7_init_33 : decode cX7_init 33 = .ok (.putfield 19, 3) := by decide +kernel
theorem dX7_init_36 : decode cX7_init 36 = .ok (.aload_n 0, 1) := by decide +kernel
theorem dX7_init_37 : decode cX7_init 37 = .ok (.bipush 12, 2) := by decide +kernel
theorem dX7_init_39 : decode cX7_init 39 = .ok (.newarray .int, 2) := by decide +kernel
theorem dX7_init_41 : decode cX7_init 41 = .ok (.putfield 22, 3) := by decide +kernel
theorem dX7_init_44 : decode cX7_init 44 = .ok (.aload_n 0, 1) := by decide +kernel
theorem dX7_init_45 : decode cX7_init 45 = .ok (.sipush 720, 3) := by decide +kernel
theorem dX7_init_48 : decode cX7_init 48 = .ok (.newarray .long, 2) := by decide +kernel
theorem dX7_init_50 : decode cX7_init 50 = .ok (.putfield 25, 3) := by decide +kernel
theorem dX7_init_53 : decode cX7_init 53 = .ok (.aload_n 0, 1) := by decide +kernel
theorem dX7_init_54 : decode cX7_init 54 = .ok (.sipush 1000, 3) := by decide +kernel
theorem dX7_init_57 : decode cX7_init 57 = .ok (.putfield 29, 3) := by decide +kernel
theorem dX7_init_60 : decode cX7_init 60 = .ok (.aload_n 0, 1) := by decide +kernel
theorem dX7_init_61 : decode cX7_init 61 = .ok (.sipush 150, 3) := by decide +kernel
theorem dX7_init_64 : decode cX7_init 64 = .ok (.newarray .int, 2) := by decide +kernel
theorem dX7_init_66 : decode cX7_init 66 = .ok (.putfield 33, 3) := by decide +kernel
theorem dX7_init_69 : decode cX7_init 69 = .ok (.aload_n 0, 1) := by decide +kernel
theorem dX7_init_70 : decode cX7_init 70 = .ok (.sipush 150, 3) := by decide +kernel
theorem dX7_init_73 : decode cX7_init 73 = .ok (.newarray .int, 2) := by decide +kernel
theorem dX7_init_75 : decode cX7_init 75 = .ok (.putfield 36, 3) := by decide +kernel
theorem dX7_init_78 : decode cX7_init 78 = .ok (.aload_n 0, 1) := by decide +kernel
theorem dX7_init_79 : decode cX7_init 79 = .ok (.sipush 150, 3) := by decide +kernel
theorem dX7_init_82 : decode cX7_init 82 = .ok (.newarray .int, 2) := by decide +kernel
theorem dX7_init_84 : decode cX7_init 84 = .ok (.putfield 39, 3) := by decide +kernel
theorem dX7_init_87 : decode cX7_init 87 = .ok (.aload_n 0, 1) := by decide +kernel
theorem dX7_init_88 : decode cX7_init 88 = .ok (.sipush 150, 3) := by decide +kernel
theorem dX7_init_91 : decode cX7_init 91 = .ok (.newarray .int, 2) := by decide +kernel
theorem dX7_init_93 : decode cX7_init 93 = .ok (.putfield 42, 3) := by decide +kernel
theorem dX7_init_96 : decode cX7_init 96 = .ok (.aload_n 0, 1) := by decide +kernel
theorem dX7_init_97 : decode cX7_init 97 = .ok (.sipush 150, 3) := by decide +kernel
theorem dX7_init_100 : decode cX7_init 100 = .ok (.newarray .int, 2) := by decide +kernel
theorem dX7_init_102 : decode cX7_init 102 = .ok (.putfield 45, 3) := by decide +kernel
theorem dX7_init_105 : decode cX7_init 105 = .ok (.aload_n 0, 1) := by decide +kernel
theorem dX7_init_106 : decode cX7_init 106 = .ok (.sipush 150, 3) := by decide +kernel
theorem dX7_init_109 : decode cX7_init 109 = .ok (.newarray .int, 2) := by decide +kernel
theorem dX7_init_111 : decode cX7_init 111 = .ok (.putfield 48, 3) := by decide +kernel
theorem dX7_init_114 : decode cX7_init 114 = .ok (.aload_n 0, 1) := by decide +kernel
theorem dX7_init_115 : decode cX7_init 115 = .ok (.sipush 150, 3) := by decide +kernel
theorem dX7_init_118 : decode cX7_init 118 = .ok (.newarray .int, 2) := by decide +kernel
theorem dX7_init_120 : decode cX7_init 120 = .ok (.putfield 51, 3) := by decide +kernel
theorem dX7_init_123 : decode cX7_init 123 = .ok (.aload_n 0, 1) := by decide +kernel
theorem dX7_init_124 : decode cX7_init 124 = .ok (.sipush 150, 3) := by decide +kernel
theorem dX7_init_127 : decode cX7_init 127 = .ok (.newarray .long, 2) := by decide +kernel
theorem dX7_init_129 : decode cX7_init 129 = .ok (.putfield 54, 3) := by decide +kernel
theorem dX7_init_132 : decode cX7_init 132 = .ok (.aload_n 0, 1) := by decide +kernel
theorem dX7_init_133 : decode cX7_init 133 = .ok (.bipush 8, 2) := by decide +kernel
theorem dX7_init_135 : decode cX7_init 135 = .ok (.newarray .int, 2) := by decide +kernel
theorem dX7_init_137 : decode cX7_init 137 = .ok (.putfield 57, 3) := by decide +kernel
theorem dX7_init_140 : decode cX7_init 140 = .ok (.aload_n 0, 1) := by decide +kernel
theorem dX7_init_141 : decode cX7_init 141 = .ok (.bipush 8, 2) := by decide +kernel
theorem dX7_init_143 : decode cX7_init 143 = .ok (.newarray .int, 2) := by decide +kernel
theorem dX7_init_145 : decode cX7_init 145 = .ok (.putfield 60, 3) := by decide +kernel
theorem dX7_init_148 : decode cX7_init 148 = .ok (.aload_n 0, 1) := by decide +kernel
theorem dX7_init_149 : decode cX7_init 149 = .ok (.bipush 8, 2) := by decide +kernel
theorem dX7_init_151 : decode cX7_init 151 = .ok (.newarray .int, 2) := by decide +kernel
theorem dX7_init_153 : decode cX7_init 153 = .ok (.putfield 63, 3) := by decide +kernel
theorem dX7_init_156 : decode cX7_init 156 = .ok (.aload_n 0, 1) := by decide +kernel
theorem dX7_init_157 : decode cX7_init 157 = .ok (.iconst 3, 1) := by decide +kernel
theorem dX7_init_158 : decode cX7_init 158 = .ok (.newarray .int, 2) := by decide +kernel
theorem dX7_init_160 : decode cX7_init 160 = .ok (.putfield 66, 3) := by decide +kernel
theorem dX7_init_163 : decode cX7_init 163 = .ok (.aload_n 0, 1) := by decide +kernel
theorem dX7_init_164 : decode cX7_init 164 = .ok (.iconst 3, 1) := by decide +kernel
theorem dX7_init_165 : decode cX7_init 165 = .ok (.newarray .int, 2) := by decide +kernel
theorem dX7_init_167 : decode cX7_init 167 = .ok (.putfield 69, 3) := by decide +kernel
theorem dX7_init_170 : decode cX7_init 170 = .ok (.aload_n 0, 1) := by decide +kernel
theorem dX7_init_171 : decode cX7_init 171 = .ok (.iconst 3, 1) := by decide +kernel
theorem dX7_init_172 : decode cX7_init 172 = .ok (.newarray .int, 2) := by decide +kernel
theorem dX7_init_174 : decode cX7_init 174 = .ok (.putfield 72, 3) := by decide +kernel
theorem dX7_init_177 : decode cX7_init 177 = .ok (.aload_n 0, 1) := by decide +kernel
theorem dX7_init_178 : decode cX7_init 178 = .ok (.bipush 24, 2) := by decide +kernel
theorem dX7_init_180 : decode cX7_init 180 = .ok (.newarray .int, 2) := by decide +kernel
theorem dX7_init_182 : decode cX7_init 182 = .ok (.putfield 75, 3) := by decide +kernel
theorem dX7_init_185 : decode cX7_init 185 = .ok (.aload_n 0, 1) := by decide +kernel
theorem dX7_init_186 : decode cX7_init 186 = .ok (.iconst 3, 1) := by decide +kernel
theorem dX7_init_187 : decode cX7_init 187 = .ok (.newarray .int, 2) := by decide +kernel
theorem dX7_init_189 : decode cX7_init 189 = .ok (.putfield 78, 3) := by decide +kernel
theorem dX7_init_192 : decode cX7_init 192 = .ok (.aload_n 0, 1) := by decide +kernel
theorem dX7_init_193 : decode cX7_init 193 = .ok (.iconst 3, 1) := by decide +kernel
theorem dX7_init_194 : decode cX7_init 194 = .ok (.newarray .int, 2) := by decide +kernel
theorem dX7_init_196 : decode cX7_init 196 = .ok (.putfield 81, 3) := by decide +kernel
theorem dX7_init_199 : decode cX7_init 199 = .ok (.aload_n 0, 1) := by decide +kernel
theorem dX7_init_200 : decode cX7_init 200 = .ok (.iconst 3, 1) := by decide +kernel
theorem dX7_init_201 : decode cX7_init 201 = .ok (.newarray .int, 2) := by decide +kernel
theorem dX7_init_203 : decode cX7_init 203 = .ok (.putfield 84, 3) := by decide +kernel
theorem dX7_init_206 : decode cX7_init 206 = .ok (.aload_n 0, 1) := by decide +kernel
theorem dX7_init_207 : decode cX7_init 207 = .ok (.iconst 2, 1) := by decide +kernel
theorem dX7_init_208 : decode cX7_init 208 = .ok (.newarray .int, 2) := by decide +kernel
theorem dX7_init_210 : decode cX7_init 210 = .ok (.putfield 87, 3) := by decide +kernel
theorem dX7_init_213 : decode cX7_init 213 = .ok (.aload_n 0, 1) := by decide +kernel
theorem dX7_init_214 : decode cX7_init 214 = .ok (.iconst 2, 1) := by decide +kernel
theorem dX7_init_215 : decode cX7_init 215 = .ok (.newarray .int, 2) := by decide +kernel
theorem dX7_init_217 : decode cX7_init 217 = .ok (.putfield 90, 3) := by decide +kernel
theorem dX7_init_220 : decode cX7_init 220 = .ok (.aload_n 0, 1) := by decide +kernel
theorem dX7_init_221 : decode cX7_init 221 = .ok (.iconst 2, 1) := by decide +kernel
theorem dX7_init_222 : decode cX7_init 222 = .ok (.newarray .boolean, 2) := by decide +kernel
theorem dX7_init_224 : decode cX7_init 224 = .ok (.putfield 93, 3) := by decide +kernel
theorem dX7_init_227 : decode cX7_init 227 = .ok (.aload_n 0, 1) := by decide +kernel
theorem dX7_init_228 : decode cX7_init 228 = .ok (.iconst 2, 1) := by decide +kernel
theorem dX7_init_229 : decode cX7_init 229 = .ok (.newarray .int, 2) := by decide +kernel
theorem dX7_init_231 : decode cX7_init 231 = .ok (.putfield 97, 3) := by decide +kernel
theorem dX7_init_234 : decode cX7_init 234 = .ok (.aload_n 0, 1) := by decide +kernel
theorem dX7_init_235 : decode cX7_init 235 = .ok (.iconst 2, 1) := by decide +kernel
theorem dX7_init_236 : decode cX7_init 236 = .ok (.newarray .int, 2) := by decide +kernel
theorem dX7_init_238 : decode cX7_init 238 = .ok (.putfield 100, 3) := by decide +kernel
theorem dX7_init_241 : decode cX7_init 241 = .ok (.aload_n 0, 1) := by decide +kernel
theorem dX7_init_242 : decode cX7_init 242 = .ok (.iconst 2, 1) := by decide +kernel
theorem dX7_init_243 : decode cX7_init 243 = .ok (.newarray .int, 2) := by decide +kernel
theorem dX7_init_245 : decode cX7_init 245 = .ok (.putfield 103, 3) := by decide +kernel
theorem dX7_init_248 : decode cX7_init 248 = .ok (.aload_n 0, 1) := by decide +kernel
theorem dX7_init_249 : decode cX7_init 249 = .ok (.iconst 2, 1) := by decide +kernel
theorem dX7_init_250 : decode cX7_init 250 = .ok (.newarray .boolean, 2) := by decide +kernel
theorem dX7_init_252 : decode cX7_init 252 = .ok (.putfield 106, 3) := by decide +kernel
theorem dX7_init_255 : decode cX7_init 255 = .ok (.aload_n 0, 1) := by decide +kernel
theorem dX7_init_256 : decode cX7_init 256 = .ok (.bipush 8, 2) := by decide +kernel
theorem dX7_init_258 : decode cX7_init 258 = .ok (.newarray .int, 2) := by decide +kernel
theorem dX7_init_260 : decode cX7_init 260 = .ok (.putfield 109, 3) := by decide +kernel
theorem dX7_init_263 : decode cX7_init 263 = .ok (.aload_n 0, 1) := by decide +kernel
theorem dX7_init_264 : decode cX7_init 264 = .ok (.bipush 8, 2) := by decide +kernel
theorem dX7_init_266 : decode cX7_init 266 = .ok (.newarray .int, 2) := by decide +kernel
theorem dX7_init_268 : decode cX7_init 268 = .ok (.putfield 112, 3) := by decide +kernel
theorem dX7_init_271 : decode cX7_init 271 = .ok (.aload_n 0, 1) := by decide +kernel
theorem dX7_init_272 : decode cX7_init 272 = .ok (.bipush 8, 2) := by decide +kernel
theorem dX7_init_274 : decode cX7_init 274 = .ok (.newarray .int, 2) := by decide +kernel
theorem dX7_init_276 : decode cX7_init 276 = .ok (.putfield 115, 3) := by decide +kernel
theorem dX7_init_279 : decode cX7_init 279 = .ok (.aload_n 0, 1) := by decide +kernel
theorem dX7_init_280 : decode cX7_init 280 = .ok (.bipush 8, 2) := by decide +kernel
theorem dX7_init_282 : decode cX7_init 282 = .ok (.newarray .int, 2) := by decide +kernel
theorem dX7_init_284 : decode cX7_init 284 = .ok (.putfield 118, 3) := by decide +kernel
theorem dX7_init_287 : decode cX7_init 287 = .ok (.aload_n 0, 1) := by decide +kernel
theorem dX7_init_288 : decode cX7_init 288 = .ok (.getfield 87, 3) := by decide +kernel
theorem dX7_init_291 : decode cX7_init 291 = .ok (.iconst 0, 1) := by decide +kernel
theorem dX7_init_292 : decode cX7_init 292 = .ok (.iconst (-1), 1) := by decide +kernel
theorem dX7_init_293 : decode cX7_init 293 = .ok (.iastore, 1) := by decide +kernel
theorem dX7_init_294 : decode cX7_init 294 = .ok (.aload_n 0, 1) := by decide +kernel
theorem dX7_init_295 : decode cX7_init 295 = .ok (.getfield 87, 3) := by decide +kernel
theorem dX7_init_298 : decode cX7_init 298 = .ok (.iconst 1, 1) := by decide +kernel
theorem dX7_init_299 : decode cX7_init 299 = .ok (.bipush 40, 2) := by decide +kernel
theorem dX7_init_301 : decode cX7_init 301 = .ok (.iastore, 1) := by decide +kernel
theorem dX7_init_302 : decode cX7_init 302 = .ok (.aload_n 0, 1) := by decide +kernel
theorem dX7_init_303 : decode cX7_init 303 = .ok (.getfield 90, 3) := by decide +kernel
theorem dX7_init_306 : decode cX7_init 306 = .ok (.iconst 0, 1) := by decide +kernel
theorem dX7_init_307 : decode cX7_init 307 = .ok (.iconst (-1), 1) := by decide +kernel
theorem dX7_init_308 : decode cX7_init 308 = .ok (.iastore, 1) := by decide +kernel
theorem dX7_init_309 : decode cX7_init 309 = .ok (.aload_n 0, 1) := by decide +kernel
theorem dX7_init_310 : decode cX7_init 310 = .ok (.getfield 90, 3) := by decide +kernel
theorem dX7_init_313 : decode cX7_init 313 = .ok (.iconst 1, 1) := by decide +kernel
theorem dX7_init_314 : decode cX7_init 314 = .ok (.iconst (-1), 1) := by decide +kernel
theorem dX7_init_315 : decode cX7_init 315 = .ok (.iastore, 1) := by decide +kernel
theorem dX7_init_316 : decode cX7_init 316 = .ok (.return_, 1) := by decide +kernel
theorem dX7_thrown_0 : decode cX7_thrown 0 = .ok (.aload_n 0, 1) := by decide +kernel
theorem dX7_thrown_1 : decode cX7_thrown 1 = .ok (.getfield 121, 3) := by decide +kernel
theorem dX7_thrown_4 : decode cX7_thrown 4 = .ok (.ireturn, 1) := by decide +kernel
theorem dX7_within_0 : decode cX7_within 0 = .ok (.iload_n 0, 1) := by decide +kernel
theorem dX7_within_1 : decode cX7_within 1 = .ok (.iload_n 1, 1) := by decide +kernel
theorem dX7_within_2 : decode cX7_within 2 = .ok (.if_icmp .lt 12, 3) := by decide +kernel
theorem dX7_within_5 : decode cX7_within 5 = .ok (.iload_n 0, 1) := by decide +kernel
theorem dX7_within_6 : decode cX7_within 6 = .ok (.iload_n 2, 1) := by decide +kernel
theorem dX7_within_7 : decode cX7_within 7 = .ok (.if_icmp .gt 7, 3) := by decide +kernel
theorem dX7_within_10 : decode cX7_within 10 = .ok (.iconst 1, 1) := by decide +kernel
theorem dX7_within_11 : decode cX7_within 11 = .ok (.goto 4, 3) := by decide +kernel
theorem dX7_within_14 : decode cX7_within 14 = .ok (.iconst 0, 1) := by decide +kernel
theorem dX7_within_15 : decode cX7_within 15 = .ok (.ireturn, 1) := by decide +kernel
theorem dX7_tape_0 : decode cX7_tape 0 = .ok (.aload_n 0, 1) := by decide +kernel
theorem dX7_tape_1 : decode cX7_tape 1 = .ok (.iconst 0, 1) := by decide +kernel
theorem dX7_tape_2 : decode cX7_tape 2 = .ok (.putfield 121, 3) := by decide +kernel
theorem dX7_tape_5 : decode cX7_tape 5 = .ok (.iconst 0, 1) := by decide +kernel
theorem dX7_tape_6 : decode cX7_tape 6 = .ok (.istore 4, 2) := by decide +kernel
theorem dX7_tape_8 : decode cX7_tape 8 = .ok (.iconst 0, 1) := by decide +kernel
theorem dX7_tape_9 : decode cX7_tape 9 = .ok (.istore 5, 2) := by decide +kernel
theorem dX7_tape_11 : decode cX7_tape 11 = .ok (.iload 5, 2) := by decide +kernel
theorem dX7_tape_13 : decode cX7_tape 13 = .ok (.aload_n 0, 1) := by decide +kernel
theorem dX7_tape_14 : decode cX7_tape 14 = .ok (.getfield 124, 3) := by decide +kernel
theorem dX7_tape_17 : decode cX7_tape 17 = .ok (.if_icmp .ge 32, 3) := by decide +kernel
theorem dX7_tape_20 : decode cX7_tape 20 = .ok (.iload 4, 2) := by decide +kernel
theorem dX7_tape_22 : decode cX7_tape 22 = .ok (.ifCond .ne 14, 3) := by decide +kernel
theorem dX7_tape_25 : decode cX7_tape 25 = .ok (.aload_n 0, 1) := by decide +kernel
theorem dX7_tape_26 : decode cX7_tape 26 = .ok (.getfield 7, 3) := by decide +kernel
theorem dX7_tape_29 : decode cX7_tape 29 = .ok (.iload 5, 2) := by decide +kernel
theorem dX7_tape_31 : decode cX7_tape 31 = .ok (.iaload, 1) := by decide +kernel
theorem dX7_tape_32 : decode cX7_tape 32 = .ok (.iload_n 1, 1) := by decide +kernel
theorem dX7_tape_33 : decode cX7_tape 33 = .ok (.if_icmp .ne 7, 3) := by decide +kernel
theorem dX7_tape_36 : decode cX7_tape 36 = .ok (.iconst 1, 1) := by decide +kernel
theorem dX7_tape_37 : decode cX7_tape 37 = .ok (.goto 4, 3) := by decide +kernel
theorem dX7_tape_40 : decode cX7_tape 40 = .ok (.iconst 0, 1) := by decide +kernel
theorem dX7_tape_41 : decode cX7_tape 41 = .ok (.istore 4, 2) := by decide +kernel
theorem dX7_tape_43 : decode cX7_tape 43 = .ok (.iinc 5 1, 3) := by decide +kernel
theorem dX7_tape_46 : decode cX7_tape 46 = .ok (.goto (-35), 3) := by decide +kernel
theorem dX7_tape_49 : decode cX7_tape 49 = .ok (.iload_n 1, 1) := by decide +kernel
theorem dX7_tape_50 : decode cX7_tape 50 = .ok (.iconst 0, 1) := by decide +kernel
theorem dX7_tape_51 : decode cX7_tape 51 = .ok (.bipush 39, 2) := by decide +kernel
theorem dX7_tape_53 : decode cX7_tape 53 = .ok (.invokestatic 127, 3) := by decide +kernel
theorem dX7_tape_56 : decode cX7_tape 56 = .ok (.ifCond .eq 36, 3) := by decide +kernel
theorem dX7_tape_59 : decode cX7_tape 59 = .ok (.iload_n 2, 1) := by decide +kernel
theorem dX7_tape_60 : decode cX7_tape 60 = .ok (.iconst 0, 1) := by decide +kernel
theorem dX7_tape_61 : decode cX7_tape 61 = .ok (.iconst 4, 1) := by decide +kernel
theorem dX7_tape_62 : decode cX7_tape 62 = .ok (.invokestatic 127, 3) := by decide +kernel
theorem dX7_tape_65 : decode cX7_tape 65 = .ok (.ifCond .eq 27, 3) := by decide +kernel
theorem dX7_tape_68 : decode cX7_tape 68 = .ok (.iload 4, 2) := by decide +kernel
theorem dX7_tape_70 : decode cX7_tape 70 = .ok (.ifCond .ne 22, 3) := by decide +kernel
theorem dX7_tape_73 : decode cX7_tape 73 = .ok (.iload_n 3, 1) := by decide +kernel
theorem dX7_tape_74 : decode cX7_tape 74 = .ok (.bipush 60, 2) := by decide +kernel
theorem dX7_tape_76 : decode cX7_tape 76 = .ok (.if_icmp .gt 16, 3) := by decide +kernel
theorem dX7_tape_79 : decode cX7_tape 79 = .ok (.iload_n 3, 1) := by decide +kernel
theorem dX7_tape_80 : decode cX7_tape 80 = .ok (.ifCond .eq 12, 3) := by decide +kernel
theorem dX7_tape_83 : decode cX7_tape 83 = .ok (.aload_n 0, 1) := by decide +kernel
theorem dX7_tape_84 : decode cX7_tape 84 = .ok (.getfield 124, 3) := by decide +kernel
theorem dX7_tape_87 : decode cX7_tape 87 = .ok (.bipush 12, 2) := by decide +kernel
theorem dX7_tape_89 : decode cX7_tape 89 = .ok (.if_icmp .ne 5, 3) := by decide +kernel
theorem dX7_tape_92 : decode cX7_tape 92 = .ok (.iconst (-1), 1) := by decide +kernel
theorem dX7_tape_93 : decode cX7_tape 93 = .ok (.ireturn, 1) := by decide +kernel
theorem dX7_tape_94 : decode cX7_tape 94 = .ok (.iload_n 3, 1) := by decide +kernel
theorem dX7_tape_95 : decode cX7_tape 95 = .ok (.ifCond .ge 6, 3) := by decide +kernel
theorem dX7_tape_98 : decode cX7_tape 98 = .ok (.bipush (-2), 2) := by decide +kernel
theorem dX7_tape_100 : decode cX7_tape 100 = .ok (.ireturn, 1) := by decide +kernel
theorem dX7_tape_101 : decode cX7_tape 101 = .ok (.aload_n 0, 1) := by decide +kernel
theorem dX7_tape_102 : decode cX7_tape 102 = .ok (.getfield 7, 3) := by decide +kernel
theorem dX7_tape_105 : decode cX7_tape 105 = .ok (.aload_n 0, 1) := by decide +kernel
theorem dX7_tape_106 : decode cX7_tape 106 = .ok (.getfield 124, 3) := by decide +kernel
theorem dX7_tape_109 : decode cX7_tape 109 = .ok (.iload_n 1, 1) := by decide +kernel
theorem dX7_tape_110 : decode cX7_tape 110 = .ok (.iastore, 1) := by decide +kernel
theorem dX7_tape_111 : decode cX7_tape 111 = .ok (.aload_n 0, 1) := by decide +kernel
theorem dX7_tape_112 : decode cX7_tape 112 = .ok (.getfield 13, 3) := by decide +kernel
theorem dX7_tape_115 : decode cX7_tape 115 = .ok (.aload_n 0, 1) := by decide +kernel
theorem dX7_tape_116 : decode cX7_tape 116 = .ok (.getfield 124, 3) := by decide +kernel
theorem dX7_tape_119 : decode cX7_tape 119 = .ok (.iload_n 2, 1) := by decide +kernel
theorem dX7_tape_120 : decode cX7_tape 120 = .ok (.iastore, 1) := by decide +kernel
theorem dX7_tape_121 : decode cX7_tape 121 = .ok (.aload_n 0, 1) := by decide +kernel
theorem dX7_tape_122 : decode cX7_tape 122 = .ok (.getfield 16, 3) := by decide +kernel
theorem dX7_tape_125 : decode cX7_tape 125 = .ok (.aload_n 0, 1) := by decide +kernel
theorem dX7_tape_126 : decode cX7_tape 126 = .ok (.getfield 124, 3) := by decide +kernel
theorem dX7_tape_129 : decode cX7_tape 129 = .ok (.iload_n 3, 1) := by decide +kernel
theorem dX7_tape_130 : decode cX7_tape 130 = .ok (.iastore, 1) := by decide +kernel
theorem dX7_tape_131 : decode cX7_tape 131 = .ok (.aload_n 0, 1) := by decide +kernel
theorem dX7_tape_132 : decode cX7_tape 132 = .ok (.dup, 1) := by decide +kernel
theorem dX7_tape_133 : decode cX7_tape 133 = .ok (.getfield 124, 3) := by decide +kernel
theorem dX7_tape_136 : decode cX7_tape 136 = .ok (.iconst 1, 1) := by decide +kernel
theorem dX7_tape_137 : decode cX7_tape 137 = .ok (.iadd, 1) := by decide +kernel
theorem dX7_tape_138 : decode cX7_tape 138 = .ok (.putfield 124, 3) := by decide +kernel
theorem dX7_tape_141 : decode cX7_tape 141 = .ok (.aload_n 0, 1) := by decide +kernel
theorem dX7_tape_142 : decode cX7_tape 142 = .ok (.getfield 124, 3) := by decide +kernel
theorem dX7_tape_145 : decode cX7_tape 145 = .ok (.iconst 1, 1) := by decide +kernel
theorem dX7_tape_146 : decode cX7_tape 146 = .ok (.isub, 1) := by decide +kernel
theorem dX7_tape_147 : decode cX7_tape 147 = .ok (.ireturn, 1) := by decide +kernel
theorem dX7_isTape_0 : decode cX7_isTape 0 = .ok (.iload_n 1, 1) := by decide +kernel
theorem dX7_isTape_1 : decode cX7_isTape 1 = .ok (.iconst 0, 1) := by decide +kernel
theorem dX7_isTape_2 : decode cX7_isTape 2 = .ok (.aload_n 0, 1) := by decide +kernel
theorem dX7_isTape_3 : decode cX7_isTape 3 = .ok (.getfield 124, 3) := by decide +kernel
theorem dX7_isTape_6 : decode cX7_isTape 6 = .ok (.iconst 1, 1) := by decide +kernel
theorem dX7_isTape_7 : decode cX7_isTape 7 = .ok (.isub, 1) := by decide +kernel
theorem dX7_isTape_8 : decode cX7_isTape 8 = .ok (.invokestatic 127, 3) := by decide +kernel
theorem dX7_isTape_11 : decode cX7_isTape 11 = .ok (.ireturn, 1) := by decide +kernel
theorem dX7_cell_0 : decode cX7_cell 0 = .ok (.aload_n 0, 1) := by decide +kernel
theorem dX7_cell_1 : decode cX7_cell 1 = .ok (.iload_n 1, 1) := by decide +kernel
theorem dX7_cell_2 : decode cX7_cell 2 = .ok (.invokevirtual 131, 3) := by decide +kernel
theorem dX7_cell_5 : decode cX7_cell 5 = .ok (.ifCond .eq 33, 3) := by decide +kernel
theorem dX7_cell_8 : decode cX7_cell 8 = .ok (.aload_n 0, 1) := by decide +kernel
theorem dX7_cell_9 : decode cX7_cell 9 = .ok (.getfield 13, 3) := by decide +kernel
theorem dX7_cell_12 : decode cX7_cell 12 = .ok (.iload_n 1, 1) := by decide +kernel
theorem dX7_cell_13 : decode cX7_cell 13 = .ok (.iaload, 1) := by decide +kernel
theorem dX7_cell_14 : decode cX7_cell 14 = .ok (.iconst 4, 1) := by decide +kernel
theorem dX7_cell_15 : decode cX7_cell 15 = .ok (.if_icmp .eq 23, 3) := by decide +kernel
theorem dX7_cell_18 : decode cX7_cell 18 = .ok (.iload_n 2, 1) := by decide +kernel
theorem dX7_cell_19 : decode cX7_cell 19 = .ok (.iconst 0, 1) := by decide +kernel
theorem dX7_cell_20 : decode cX7_cell 20 = .ok (.aload_n 0, 1) := by decide +kernel
theorem dX7_cell_21 : decode cX7_cell 21 = .ok (.getfield 16, 3) := by decide +kernel
theorem dX7_cell_24 : decode cX7_cell 24 = .ok (.iload_n 1, 1) := by decide +kernel
theorem dX7_cell_25 : decode cX7_cell 25 = .ok (.iaload, 1) := by decide +kernel
theorem dX7_cell_26 : decode cX7_cell 26 = .ok (.iconst 1, 1) := by decide +kernel
theorem dX7_cell_27 : decode cX7_cell 27 = .ok (.isub, 1) := by decide +kernel
theorem dX7_cell_28 : decode cX7_cell 28 = .ok (.invokestatic 127, 3) := by decide +kernel
theorem dX7_cell_31 : decode cX7_cell 31 = .ok (.ifCond .eq 7, 3) := by decide +kernel
theorem dX7_cell_34 : decode cX7_cell 34 = .ok (.iconst 1, 1) := by decide +kernel
theorem dX7_cell_35 : decode cX7_cell 35 = .ok (.goto 4, 3) := by decide +kernel
theorem dX7_cell_38 : decode cX7_cell 38 = .ok (.iconst 0, 1) := by decide +kernel
theorem dX7_cell_39 : decode cX7_cell 39 = .ok (.istore_n 3, 1) := by decide +kernel
theorem dX7_cell_40 : decode cX7_cell 40 = .ok (.aload_n 0, 1) := by decide +kernel
theorem dX7_cell_41 : decode cX7_cell 41 = .ok (.iload_n 3, 1) := by decide +kernel
theorem dX7_cell_42 : decode cX7_cell 42 = .ok (.ifCond .eq 7, 3) := by decide +kernel
theorem dX7_cell_45 : decode cX7_cell 45 = .ok (.iconst 0, 1) := by decide +kernel
theorem dX7_cell_46 : decode cX7_cell 46 = .ok (.goto 4, 3) := by decide +kernel
theorem dX7_cell_49 : decode cX7_cell 49 = .ok (.iconst 1, 1) := by decide +kernel
theorem dX7_cell_50 : decode cX7_cell 50 = .ok (.putfield 121, 3) := by decide +kernel
theorem dX7_cell_53 : decode cX7_cell 53 = .ok (.iload_n 3, 1) := by decide +kernel
theorem dX7_cell_54 : decode cX7_cell 54 = .ok (.ifCond .eq 17, 3) := by decide +kernel
theorem dX7_cell_57 : decode cX7_cell 57 = .ok (.aload_n 0, 1) := by decide +kernel
theorem dX7_cell_58 : decode cX7_cell 58 = .ok (.getfield 25, 3) := by decide +kernel
theorem dX7_cell_61 : decode cX7_cell 61 = .ok (.bipush 60, 2) := by decide +kernel
theorem dX7_cell_63 : decode cX7_cell 63 = .ok (.iload_n 1, 1) := by decide +kernel
theorem dX7_cell_64 : decode cX7_cell 64 = .ok (.imul, 1) := by decide +kernel
theorem dX7_cell_65 : decode cX7_cell 65 = .ok (.iload_n 2, 1) := by decide +kernel
theorem dX7_cell_66 : decode cX7_cell 66 = .ok (.iadd, 1) := by decide +kernel
theorem dX7_cell_67 : decode cX7_cell 67 = .ok (.laload, 1) := by decide +kernel
theorem dX7_cell_68 : decode cX7_cell 68 = .ok (.goto 4, 3) := by decide +kernel
theorem dX7_cell_71 : decode cX7_cell 71 = .ok (.lconst 0, 1) := by decide +kernel
theorem dX7_cell_72 : decode cX7_cell 72 = .ok (.lreturn, 1) := by decide +kernel
theorem dX7_cut_0 : decode cX7_cut 0 = .ok (.iload_n 0, 1) := by decide +kernel
theorem dX7_cut_1 : decode cX7_cut 1 = .ok (.ifCond .ne 10, 3) := by decide +kernel
theorem dX7_cut_4 : decode cX7_cut 4 = .ok (.lload_n 1, 1) := by decide +kernel
theorem dX7_cut_5 : decode cX7_cut 5 = .ok (.l2i, 1) := by decide +kernel
theorem dX7_cut_6 : decode cX7_cut 6 = .ok (.i2b, 1) := by decide +kernel
theorem dX7_cut_7 : decode cX7_cut 7 = .ok (.i2l, 1) := by decide +kernel
theorem dX7_cut_8 : decode cX7_cut 8 = .ok (.goto 27, 3) := by decide +kernel
theorem dX7_cut_11 : decode cX7_cut 11 = .ok (.iload_n 0, 1) := by decide +kernel
theorem dX7_cut_12 : decode cX7_cut 12 = .ok (.iconst 1, 1) := by decide +kernel
theorem dX7_cut_13 : decode cX7_cut 13 = .ok (.if_icmp .ne 10, 3) := by decide +kernel
theorem dX7_cut_16 : decode cX7_cut 16 = .ok (.lload_n 1, 1) := by decide +kernel
theorem dX7_cut_17 : decode cX7_cut 17 = .ok (.l2i, 1) := by decide +kernel
theorem dX7_cut_18 : decode cX7_cut 18 = .ok (.i2s, 1) := by decide +kernel
theorem dX7_cut_19 : decode cX7_cut 19 = .ok (.i2l, 1) := by decide +kernel
theorem dX7_cut_20 : decode cX7_cut 20 = .ok (.goto 15, 3) := by decide +kernel
theorem dX7_cut_23 : decode cX7_cut 23 = .ok (.iload_n 0, 1) := by decide +kernel
theorem dX7_cut_24 : decode cX7_cut 24 = .ok (.iconst 2, 1) := by decide +kernel
theorem dX7_cut_25 : decode cX7_cut 25 = .ok (.if_icmp .ne 9, 3) := by decide +kernel
theorem dX7_cut_28 : decode cX7_cut 28 = .ok (.lload_n 1, 1) := by decide +kernel
theorem dX7_cut_29 : decode cX7_cut 29 = .ok (.l2i, 1) := by decide +kernel
theorem dX7_cut_30 : decode cX7_cut 30 = .ok (.i2l, 1) := by decide +kernel
theorem dX7_cut_31 : decode cX7_cut 31 = .ok (.goto 4, 3) := by decide +kernel
theorem dX7_cut_34 : decode cX7_cut 34 = .ok (.lload_n 1, 1) := by decide +kernel
theorem dX7_cut_35 : decode cX7_cut 35 = .ok (.lreturn, 1) := by decide +kernel
theorem dX7_settings_0 : decode cX7_settings 0 = .ok (.aload_n 0, 1) := by decide +kernel
theorem dX7_settings_1 : decode cX7_settings 1 = .ok (.iconst 0, 1) := by decide +kernel
theorem dX7_settings_2 : decode cX7_settings 2 = .ok (.putfield 121, 3) := by decide +kernel
theorem dX7_settings_5 : decode cX7_settings 5 = .ok (.iload_n 1, 1) := by decide +kernel
theorem dX7_settings_6 : decode cX7_settings 6 = .ok (.sipush (-1000), 3) := by decide +kernel
theorem dX7_settings_9 : decode cX7_settings 9 = .ok (.sipush 10000, 3) := by decide +kernel
theorem dX7_settings_12 : decode cX7_settings 12 = .ok (.invokestatic 127, 3) := by decide +kernel
theorem dX7_settings_15 : decode cX7_settings 15 = .ok (.ifCond .eq 14, 3) := by decide +kernel
theorem dX7_settings_18 : decode cX7_settings 18 = .ok (.iload_n 2, 1) := by decide +kernel
theorem dX7_settings_19 : decode cX7_settings 19 = .ok (.iconst 0, 1) := by decide +kernel
theorem dX7_settings_20 : decode cX7_settings 20 = .ok (.sipush 10000, 3) := by decide +kernel
theorem dX7_settings_23 : decode cX7_settings 23 = .ok (.invokestatic 127, 3) := by decide +kernel
theorem dX7_settings_26 : decode cX7_settings 26 = .ok (.ifCond .ne 5, 3) := by decide +kernel
theorem dX7_settings_29 : decode cX7_settings 29 = .ok (.iconst 0, 1) := by decide +kernel
theorem dX7_settings_30 : decode cX7_settings 30 = .ok (.ireturn, 1) := by decide +kernel
theorem dX7_settings_31 : decode cX7_settings 31 = .ok (.aload_n 0, 1) := by decide +kernel
theorem dX7_settings_32 : decode cX7_settings 32 = .ok (.iload_n 1, 1) := by decide +kernel
theorem dX7_settings_33 : decode cX7_settings 33 = .ok (.putfield 135, 3) := by decide +kernel
theorem dX7_settings_36 : decode cX7_settings 36 = .ok (.aload_n 0, 1) := by decide +kernel
theorem dX7_settings_37 : decode cX7_settings 37 = .ok (.iload_n 2, 1) := by decide +kernel
theorem dX7_settings_38 : decode cX7_settings 38 = .ok (.putfield 29, 3) := by decide +kernel
theorem dX7_settings_41 : decode cX7_settings 41 = .ok (.iconst 1, 1) := by decide +kernel
theorem dX7_settings_42 : decode cX7_settings 42 = .ok (.ireturn, 1) := by decide +kernel
theorem dX7_ask_0 : decode cX7_ask 0 = .ok (.aload_n 0, 1) := by decide +kernel
theorem dX7_ask_1 : decode cX7_ask 1 = .ok (.iconst 0, 1) := by decide +kernel
theorem dX7_ask_2 : decode cX7_ask 2 = .ok (.putfield 121, 3) := by decide +kernel
theorem dX7_ask_5 : decode cX7_ask 5 = .ok (.aload_n 0, 1) := by decide +kernel
theorem dX7_ask_6 : decode cX7_ask 6 = .ok (.iload_n 2, 1) := by decide +kernel
theorem dX7_ask_7 : decode cX7_ask 7 = .ok (.invokevirtual 131, 3) := by decide +kernel
theorem dX7_ask_10 : decode cX7_ask 10 = .ok (.ifCond .eq 22, 3) := by decide +kernel
theorem dX7_ask_13 : decode cX7_ask 13 = .ok (.iload_n 1, 1) := by decide +kernel
theorem dX7_ask_14 : decode cX7_ask 14 = .ok (.iconst 0, 1) := by decide +kernel
theorem dX7_ask_15 : decode cX7_ask 15 = .ok (.iconst 4, 1) := by decide +kernel
theorem dX7_ask_16 : decode cX7_ask 16 = .ok (.invokestatic 127, 3) := by decide +kernel
theorem dX7_ask_19 : decode cX7_ask 19 = .ok (.ifCond .eq 13, 3) := by decide +kernel
theorem dX7_ask_22 : decode cX7_ask 22 = .ok (.aload_n 0, 1) := by decide +kernel
theorem dX7_ask_23 : decode cX7_ask 23 = .ok (.getfield 138, 3) := by decide +kernel
theorem dX7_ask_26 : decode cX7_ask 26 = .ok (.sipush 150, 3) := by decide +kernel
theorem dX7_ask_29 : decode cX7_ask 29 = .ok (.if_icmp .ne 5, 3) := by decide +kernel
theorem dX7_ask_32 : decode cX7_ask 32 = .ok (.iconst (-1), 1) := by decide +kernel
theorem dX7_ask_33 : decode cX7_ask 33 = .ok (.ireturn, 1) := by decide +kernel
theorem dX7_ask_34 : decode cX7_ask 34 = .ok (.iload_n 1, 1) := by decide +kernel
theorem dX7_ask_35 : decode cX7_ask 35 = .ok (.iconst 3, 1) := by decide +kernel
theorem dX7_ask_36 : decode cX7_ask 36 = .ok (.if_icmp .ne 15, 3) := by decide +kernel
theorem dX7_ask_39 : decode cX7_ask 39 = .ok (.iload_n 3, 1) := by decide +kernel
theorem dX7_ask_40 : decode cX7_ask 40 = .ok (.ifCond .lt 7, 3) := by decide +kernel
theorem dX7_ask_43 : decode cX7_ask 43 = .ok (.iconst 1, 1) := by decide +kernel
theorem dX7_ask_44 : decode cX7_ask 44 = .ok (.goto 50, 3) := by decide +kernel
theorem dX7_ask_47 : decode cX7_ask 47 = .ok (.iconst 0, 1) := by decide +kernel
theorem dX7_ask_48 : decode cX7_ask 48 = .ok (.goto 46, 3) := by decide +kernel
theorem dX7_ask_51 : decode cX7_ask 51 = .ok (.iload_n 3, 1) := by decide +kernel
theorem dX7_ask_52 : decode cX7_ask 52 = .ok (.iconst 0, 1) := by decide +kernel
theorem dX7_ask_53 : decode cX7_ask 53 = .ok (.aload_n 0, 1) := by decide +kernel
theorem dX7_ask_54 : decode cX7_ask 54 = .ok (.getfield 16, 3) := by decide +kernel
theorem dX7_ask_57 : decode cX7_ask 57 = .ok (.iload_n 2, 1) := by decide +kernel
theorem dX7_ask_58 : decode cX7_ask 58 = .ok (.iaload, 1) := by decide +kernel
theorem dX7_ask_59 : decode cX7_ask 59 = .ok (.iconst 1, 1) := by decide +kernel
theorem dX7_ask_60 : decode cX7_ask 60 = .ok (.isub, 1) := by decide +kernel
theorem dX7_ask_61 : decode cX7_ask 61 = .ok (.invokestatic 127, 3) := by decide +kernel
theorem dX7_ask_64 : decode cX7_ask 64 = .ok (.ifCond .eq 29, 3) := by decide +kernel
theorem dX7_ask_67 : decode cX7_ask 67 = .ok (.iload_n 1, 1) := by decide +kernel
theorem dX7_ask_68 : decode cX7_ask 68 = .ok (.iconst 1, 1) := by decide +kernel
theorem dX7_ask_69 : decode cX7_ask 69 = .ok (.if_icmp .ne 20, 3) := by decide +kernel
theorem dX7_ask_72 : decode cX7_ask 72 = .ok (.iload 4, 2) := by decide +kernel
theorem dX7_ask_74 : decode cX7_ask 74 = .ok (.iload_n 3, 1) := by decide +kernel
theorem dX7_ask_75 : decode cX7_ask 75 = .ok (.aload_n 0, 1) := by decide +kernel
theorem dX7_ask_76 : decode cX7_ask 76 = .ok (.getfield 16, 3) := by decide +kernel
theorem dX7_ask_79 : decode cX7_ask 79 = .ok (.iload_n 2, 1) := by decide +kernel
theorem dX7_ask_80 : decode cX7_ask 80 = .ok (.iaload, 1) := by decide +kernel
theorem dX7_ask_81 : decode cX7_ask 81 = .ok (.iconst 1, 1) := by decide +kernel
theorem dX7_ask_82 : decode cX7_ask 82 = .ok (.isub, 1) := by decide +kernel
theorem dX7_ask_83 : decode cX7_ask 83 = .ok (.invokestatic 127, 3) := by decide +kernel
theorem dX7_ask_86 : decode cX7_ask 86 = .ok (.ifCond .eq 7, 3) := by decide +kernel
theorem dX7_ask_89 : decode cX7_ask 89 = .ok (.iconst 1, 1) := by decide +kernel
theorem dX7_ask_90 : decode cX7_ask 90 = .ok (.goto 4, 3) := by decide +kernel
theorem dX7_ask_93 : decode cX7_ask 93 = .ok (.iconst 0, 1) := by decide +kernel
theorem dX7_ask_94 : decode cX7_ask 94 = .ok (.istore 5, 2) := by decide +kernel
theorem dX7_ask_96 : decode cX7_ask 96 = .ok (.iload 5, 2) := by decide +kernel
theorem dX7_ask_98 : decode cX7_ask 98 = .ok (.ifCond .ne 5, 3) := by decide +kernel
theorem dX7_ask_101 : decode cX7_ask 101 = .ok (.iconst (-1), 1) := by decide +kernel
theorem dX7_ask_102 : decode cX7_ask 102 = .ok (.ireturn, 1) := by decide +kernel
theorem dX7_ask_103 : decode cX7_ask 103 = .ok (.aload_n 0, 1) := by decide +kernel
theorem dX7_ask_104 : decode cX7_ask 104 = .ok (.getfield 33, 3) := by decide +kernel
theorem dX7_ask_107 : decode cX7_ask 107 = .ok (.aload_n 0, 1) := by decide +kernel
theorem dX7_ask_108 : decode cX7_ask 108 = .ok (.getfield 138, 3) := by decide +kernel
theorem dX7_ask_111 : decode cX7_ask 111 = .ok (.iload_n 1, 1) := by decide +kernel
theorem dX7_ask_112 : decode cX7_ask 112 = .ok (.iastore, 1) := by decide +kernel
theorem dX7_ask_113 : decode cX7_ask 113 = .ok (.aload_n 0, 1) := by decide +kernel
theorem dX7_ask_114 : decode cX7_ask 114 = .ok (.getfield 36, 3) := by decide +kernel
theorem dX7_ask_117 : decode cX7_ask 117 = .ok (.aload_n 0, 1) := by decide +kernel
theorem dX7_ask_118 : decode cX7_ask 118 = .ok (.getfield 138, 3) := by decide +kernel
theorem dX7_ask_121 : decode cX7_ask 121 = .ok (.iload_n 2, 1) := by decide +kernel
theorem dX7_ask_122 : decode cX7_ask 122 = .ok (.iastore, 1) := by decide +kernel
theorem dX7_ask_123 : decode cX7_ask 123 = .ok (.aload_n 0, 1) := by decide +kernel
theorem dX7_ask_124 : decode cX7_ask 124 = .ok (.getfield 39, 3) := by decide +kernel
theorem dX7_ask_127 : decode cX7_ask 127 = .ok (.aload_n 0, 1) := by decide +kernel
theorem dX7_ask_128 : decode cX7_ask 128 = .ok (.getfield 138, 3) := by decide +kernel
theorem dX7_ask_131 : decode cX7_ask 131 = .ok (.iload_n 3, 1) := by decide +kernel
theorem dX7_ask_132 : decode cX7_ask 132 = .ok (.iastore, 1) := by decide +kernel
theorem dX7_ask_133 : decode cX7_ask 133 = .ok (.aload_n 0, 1) := by decide +kernel
theorem dX7_ask_134 : decode cX7_ask 134 = .ok (.getfield 42, 3) := by decide +kernel
theorem dX7_ask_137 : decode cX7_ask 137 = .ok (.aload_n 0, 1) := by decide +kernel
theorem dX7_ask_138 : decode cX7_ask 138 = .ok (.getfield 138, 3) := by decide +kernel
theorem dX7_ask_141 : decode cX7_ask 141 = .ok (.iload 4, 2) := by decide +kernel
theorem dX7_ask_143 : decode cX7_ask 143 = .ok (.iastore, 1) := by decide +kernel
theorem dX7_ask_144 : decode cX7_ask 144 = .ok (.aload_n 0, 1) := by decide +kernel
theorem dX7_ask_145 : decode cX7_ask 145 = .ok (.getfield 45, 3) := by decide +kernel
theorem dX7_ask_148 : decode cX7_ask 148 = .ok (.aload_n 0, 1) := by decide +kernel
theorem dX7_ask_149 : decode cX7_ask 149 = .ok (.getfield 138, 3) := by decide +kernel
theorem dX7_ask_152 : decode cX7_ask 152 = .ok (.aload_n 0, 1) := by decide +kernel
theorem dX7_ask_153 : decode cX7_ask 153 = .ok (.getfield 141, 3) := by decide +kernel
theorem dX7_ask_156 : decode cX7_ask 156 = .ok (.iastore, 1) := by decide +kernel
theorem dX7_ask_157 : decode cX7_ask 157 = .ok (.aload_n 0, 1) := by decide +kernel
theorem dX7_ask_158 : decode cX7_ask 158 = .ok (.getfield 48, 3) := by decide +kernel
theorem dX7_ask_161 : decode cX7_ask 161 = .ok (.aload_n 0, 1) := by decide +kernel
theorem dX7_ask_162 : decode cX7_ask 162 = .ok (.getfield 138, 3) := by decide +kernel
theorem dX7_ask_165 : decode cX7_ask 165 = .ok (.iconst 0, 1) := by decide +kernel
theorem dX7_ask_166 : decode cX7_ask 166 = .ok (.iastore, 1) := by decide +kernel
theorem dX7_ask_167 : decode cX7_ask 167 = .ok (.aload_n 0, 1) := by decide +kernel
theorem dX7_ask_168 : decode cX7_ask 168 = .ok (.getfield 51, 3) := by decide +kernel
theorem dX7_ask_171 : decode cX7_ask 171 = .ok (.aload_n 0, 1) := by decide +kernel
theorem dX7_ask_172 : decode cX7_ask 172 = .ok (.getfield 138, 3) := by decide +kernel
theorem dX7_ask_175 : decode cX7_ask 175 = .ok (.iconst (-1), 1) := by decide +kernel
theorem dX7_ask_176 : decode cX7_ask 176 = .ok (.iastore, 1) := by decide +kernel
theorem dX7_ask_177 : decode cX7_ask 177 = .ok (.aload_n 0, 1) := by decide +kernel
theorem dX7_ask_178 : decode cX7_ask 178 = .ok (.dup, 1) := by decide +kernel
theorem dX7_ask_179 : decode cX7_ask 179 = .ok (.getfield 138, 3) := by decide +kernel
theorem dX7_ask_182 : decode cX7_ask 182 = .ok (.iconst 1, 1) := by decide +kernel
theorem dX7_ask_183 : decode cX7_ask 183 = .ok (.iadd, 1) := by decide +kernel
theorem dX7_ask_184 : decode cX7_ask 184 = .ok (.putfield 138, 3) := by decide +kernel
theorem dX7_ask_187 : decode cX7_ask 187 = .ok (.aload_n 0, 1) := by decide +kernel
theorem dX7_ask_188 : decode cX7_ask 188 = .ok (.getfield 138, 3) := by decide +kernel
theorem dX7_ask_191 : decode cX7_ask 191 = .ok (.iconst 1, 1) := by decide +kernel
theorem dX7_ask_192 : decode cX7_ask 192 = .ok (.isub, 1) := by decide +kernel
theorem dX7_ask_193 : decode cX7_ask 193 = .ok (.ireturn, 1) := by decide +kernel
theorem dX7_fromOf_0 : decode cX7_fromOf 0 = .ok (.aload_n 0, 1) := by decide +kernel
theorem dX7_fromOf_1 : decode cX7_fromOf 1 = .ok (.getfield 33, 3) := by decide +kernel
theorem dX7_fromOf_4 : decode cX7_fromOf 4 = .ok (.iload_n 1, 1) := by decide +kernel
theorem dX7_fromOf_5 : decode cX7_fromOf 5 = .ok (.iaload, 1) := by decide +kernel
theorem dX7_fromOf_6 : decode cX7_fromOf 6 = .ok (.iconst 3, 1) := by decide +kernel
theorem dX7_fromOf_7 : decode cX7_fromOf 7 = .ok (.if_icmp .ne 7, 3) := by decide +kernel
theorem dX7_fromOf_10 : decode cX7_fromOf 10 = .ok (.iconst 0, 1) := by decide +kernel
theorem dX7_fromOf_11 : decode cX7_fromOf 11 = .ok (.goto 9, 3) := by decide +kernel
theorem dX7_fromOf_14 : decode cX7_fromOf 14 = .ok (.aload_n 0, 1) := by decide +kernel
theorem dX7_fromOf_15 : decode cX7_fromOf 15 = .ok (.getfield 39, 3) := by decide +kernel
theorem dX7_fromOf_18 : decode cX7_fromOf 18 = .ok (.iload_n 1, 1) := by decide +kernel
theorem dX7_fromOf_19 : decode cX7_fromOf 19 = .ok (.iaload, 1) := by decide +kernel
theorem dX7_fromOf_20 : decode cX7_fromOf 20 = .ok (.ireturn, 1) := by decide +kernel
theorem dX7_toOf_0 : decode cX7_toOf 0 = .ok (.aload_n 0, 1) := by decide +kernel
theorem dX7_toOf_1 : decode cX7_toOf 1 = .ok (.getfield 33, 3) := by decide +kernel
theorem dX7_toOf_4 : decode cX7_toOf 4 = .ok (.iload_n 1, 1) := by decide +kernel
theorem dX7_toOf_5 : decode cX7_toOf 5 = .ok (.iaload, 1) := by decide +kernel
theorem dX7_toOf_6 : decode cX7_toOf 6 = .ok (.iconst 3, 1) := by decide +kernel
theorem dX7_toOf_7 : decode cX7_toOf 7 = .ok (.if_icmp .ne 19, 3) := by decide +kernel
theorem dX7_toOf_10 : decode cX7_toOf 10 = .ok (.aload_n 0, 1) := by decide +kernel
theorem dX7_toOf_11 : decode cX7_toOf 11 = .ok (.getfield 16, 3) := by decide +kernel
theorem dX7_toOf_14 : decode cX7_toOf 14 = .ok (.aload_n 0, 1) := by decide +kernel
theorem dX7_toOf_15 : decode cX7_toOf 15 = .ok (.getfield 36, 3) := by decide +kernel
theorem dX7_toOf_18 : decode cX7_toOf 18 = .ok (.iload_n 1, 1) := by decide +kernel
theorem dX7_toOf_19 : decode cX7_toOf 19 = .ok (.iaload, 1) := by decide +kernel
theorem dX7_toOf_20 : decode cX7_toOf 20 = .ok (.iaload, 1) := by decide +kernel
theorem dX7_toOf_21 : decode cX7_toOf 21 = .ok (.iconst 1, 1) := by decide +kernel
theorem dX7_toOf_22 : decode cX7_toOf 22 = .ok (.isub, 1) := by decide +kernel
theorem dX7_toOf_23 : decode cX7_toOf 23 = .ok (.goto 28, 3) := by decide +kernel
theorem dX7_toOf_26 : decode cX7_toOf 26 = .ok (.aload_n 0, 1) := by decide +kernel
theorem dX7_toOf_27 : decode cX7_toOf 27 = .ok (.getfield 33, 3) := by decide +kernel
theorem dX7_toOf_30 : decode cX7_toOf 30 = .ok (.iload_n 1, 1) := by decide +kernel
theorem dX7_toOf_31 : decode cX7_toOf 31 = .ok (.iaload, 1) := by decide +kernel
theorem dX7_toOf_32 : decode cX7_toOf 32 = .ok (.iconst 1, 1) := by decide +kernel
theorem dX7_toOf_33 : decode cX7_toOf 33 = .ok (.if_icmp .ne 12, 3) := by decide +kernel
theorem dX7_toOf_36 : decode cX7_toOf 36 = .ok (.aload_n 0, 1) := by decide +kernel
theorem dX7_toOf_37 : decode cX7_toOf 37 = .ok (.getfield 42, 3) := by decide +kernel
theorem dX7_toOf_40 : decode cX7_toOf 40 = .ok (.iload_n 1, 1) := by decide +kernel
theorem dX7_toOf_41 : decode cX7_toOf 41 = .ok (.iaload, 1) := by decide +kernel
theorem dX7_toOf_42 : decode cX7_toOf 42 = .ok (.goto 9, 3) := by decide +kernel
theorem dX7_toOf_45 : decode cX7_toOf 45 = .ok (.aload_n 0, 1) := by decide +kernel
theorem dX7_toOf_46 : decode cX7_toOf 46 = .ok (.getfield 39, 3) := by decide +kernel
theorem dX7_toOf_49 : decode cX7_toOf 49 = .ok (.iload_n 1, 1) := by decide +kernel
theorem dX7_toOf_50 : decode cX7_toOf 50 = .ok (.iaload, 1) := by decide +kernel
theorem dX7_toOf_51 : decode cX7_toOf 51 = .ok (.ireturn, 1) := by decide +kernel
theorem dX7_costOf_0 : decode cX7_costOf 0 = .ok (.aload_n 0, 1) := by decide +kernel
theorem dX7_costOf_1 : decode cX7_costOf 1 = .ok (.iload_n 1, 1) := by decide +kernel
theorem dX7_costOf_2 : decode cX7_costOf 2 = .ok (.invokevirtual 144, 3) := by decide +kernel
theorem dX7_costOf_5 : decode cX7_costOf 5 = .ok (.istore 4, 2) := by decide +kernel
theorem dX7_costOf_7 : decode cX7_costOf 7 = .ok (.aload_n 0, 1) := by decide +kernel
theorem dX7_costOf_8 : decode cX7_costOf 8 = .ok (.iload_n 1, 1) := by decide +kernel
theorem dX7_costOf_9 : decode cX7_costOf 9 = .ok (.invokevirtual 148, 3) := by decide +kernel
theorem dX7_costOf_12 : decode cX7_costOf 12 = .ok (.istore 5, 2) := by decide +kernel
theorem dX7_costOf_14 : decode cX7_costOf 14 = .ok (.iload 5, 2) := by decide +kernel
theorem dX7_costOf_16 : decode cX7_costOf 16 = .ok (.iload 4, 2) := by decide +kernel
theorem dX7_costOf_18 : decode cX7_costOf 18 = .ok (.isub, 1) := by decide +kernel
theorem dX7_costOf_19 : decode cX7_costOf 19 = .ok (.iconst 1, 1) := by decide +kernel
theorem dX7_costOf_20 : decode cX7_costOf 20 = .ok (.iadd, 1) := by decide +kernel
theorem dX7_costOf_21 : decode cX7_costOf 21 = .ok (.istore 6, 2) := by decide +kernel
theorem dX7_costOf_23 : decode cX7_costOf 23 = .ok (.iload_n 3, 1) := by decide +kernel
theorem dX7_costOf_24 : decode cX7_costOf 24 = .ok (.istore 7, 2) := by decide +kernel
theorem dX7_costOf_26 : decode cX7_costOf 26 = .ok (.iload 4, 2) := by decide +kernel
theorem dX7_costOf_28 : decode cX7_costOf 28 = .ok (.iload_n 2, 1) := by decide +kernel
theorem dX7_costOf_29 : decode cX7_costOf 29 = .ok (.if_icmp .eq 56, 3) := by decide +kernel
theorem dX7_costOf_32 : decode cX7_costOf 32 = .ok (.iload 4, 2) := by decide +kernel
theorem dX7_costOf_34 : decode cX7_costOf 34 = .ok (.iload_n 2, 1) := by decide +kernel
theorem dX7_costOf_35 : decode cX7_costOf 35 = .ok (.if_icmp .le 7, 3) := by decide +kernel
theorem dX7_costOf_38 : decode cX7_costOf 38 = .ok (.iconst 1, 1) := by decide +kernel
theorem dX7_costOf_39 : decode cX7_costOf 39 = .ok (.goto 4, 3) := by decide +kernel
theorem dX7_costOf_42 : decode cX7_costOf 42 = .ok (.iconst (-1), 1) := by decide +kernel
theorem dX7_costOf_43 : decode cX7_costOf 43 = .ok (.istore 8, 2) := by decide +kernel
theorem dX7_costOf_45 : decode cX7_costOf 45 = .ok (.iload 6, 2) := by decide +kernel
theorem dX7_costOf_47 : decode cX7_costOf 47 = .ok (.iload 4, 2) := by decide +kernel
theorem dX7_costOf_49 : decode cX7_costOf 49 = .ok (.iload_n 2, 1) := by decide +kernel
theorem dX7_costOf_50 : decode cX7_costOf 50 = .ok (.if_icmp .le 10, 3) := by decide +kernel
theorem dX7_costOf_53 : decode cX7_costOf 53 = .ok (.iload 4, 2) := by decide +kernel
theorem dX7_costOf_55 : decode cX7_costOf 55 = .ok (.iload_n 2, 1) := by decide +kernel
theorem dX7_costOf_56 : decode cX7_costOf 56 = .ok (.isub, 1) := by decide +kernel
theorem dX7_costOf_57 : decode cX7_costOf 57 = .ok (.goto 7, 3) := by decide +kernel
theorem dX7_costOf_60 : decode cX7_costOf 60 = .ok (.iload_n 2, 1) := by decide +kernel
theorem dX7_costOf_61 : decode cX7_costOf 61 = .ok (.iload 4, 2) := by decide +kernel
theorem dX7_costOf_63 : decode cX7_costOf 63 = .ok (.isub, 1) := by decide +kernel
theorem dX7_costOf_64 : decode cX7_costOf 64 = .ok (.iload 7, 2) := by decide +kernel
theorem dX7_costOf_66 : decode cX7_costOf 66 = .ok (.iload 8, 2) := by decide +kernel
theorem dX7_costOf_68 : decode cX7_costOf 68 = .ok (.ineg, 1) := by decide +kernel
theorem dX7_costOf_69 : decode cX7_costOf 69 = .ok (.if_icmp .ne 7, 3) := by decide +kernel
theorem dX7_costOf_72 : decode cX7_costOf 72 = .ok (.iconst 2, 1) := by decide +kernel
theorem dX7_costOf_73 : decode cX7_costOf 73 = .ok (.goto 4, 3) := by decide +kernel
theorem dX7_costOf_76 : decode cX7_costOf 76 = .ok (.iconst 0, 1) := by decide +kernel
theorem dX7_costOf_77 : decode cX7_costOf 77 = .ok (.iadd, 1) := by decide +kernel
theorem dX7_costOf_78 : decode cX7_costOf 78 = .ok (.iadd, 1) := by decide +kernel
theorem dX7_costOf_79 : decode cX7_costOf 79 = .ok (.istore 6, 2) := by decide +kernel
theorem dX7_costOf_81 : decode cX7_costOf 81 = .ok (.iload 8, 2) := by decide +kernel
theorem dX7_costOf_83 : decode cX7_costOf 83 = .ok (.istore 7, 2) := by decide +kernel
theorem dX7_costOf_85 : decode cX7_costOf 85 = .ok (.iload 5, 2) := by decide +kernel
theorem dX7_costOf_87 : decode cX7_costOf 87 = .ok (.iload 4, 2) := by decide +kernel
theorem dX7_costOf_89 : decode cX7_costOf 89 = .ok (.if_icmp .le 22, 3) := by decide +kernel
theorem dX7_costOf_92 : decode cX7_costOf 92 = .ok (.iload 6, 2) := by decide +kernel
theorem dX7_costOf_94 : decode cX7_costOf 94 = .ok (.iload 7, 2) := by decide +kernel
theorem dX7_costOf_96 : decode cX7_costOf 96 = .ok (.iconst (-1), 1) := by decide +kernel
theorem dX7_costOf_97 : decode cX7_costOf 97 = .ok (.if_icmp .ne 7, 3) := by decide +kernel
theorem dX7_costOf_100 : decode cX7_costOf 100 = .ok (.iconst 2, 1) := by decide +kernel
theorem dX7_costOf_101 : decode cX7_costOf 101 = .ok (.goto 4, 3) := by decide +kernel
theorem dX7_costOf_104 : decode cX7_costOf 104 = .ok (.iconst 0, 1) := by decide +kernel
theorem dX7_costOf_105 : decode cX7_costOf 105 = .ok (.iadd, 1) := by decide +kernel
theorem dX7_costOf_106 : decode cX7_costOf 106 = .ok (.istore 6, 2) := by decide +kernel
theorem dX7_costOf_108 : decode cX7_costOf 108 = .ok (.iconst 1, 1) := by decide +kernel
theorem dX7_costOf_109 : decode cX7_costOf 109 = .ok (.istore 7, 2) := by decide +kernel
theorem dX7_costOf_111 : decode cX7_costOf 111 = .ok (.aload_n 0, 1) := by decide +kernel
theorem dX7_costOf_112 : decode cX7_costOf 112 = .ok (.iload 7, 2) := by decide +kernel
theorem dX7_costOf_114 : decode cX7_costOf 114 = .ok (.putfield 151, 3) := by decide +kernel
theorem dX7_costOf_117 : decode cX7_costOf 117 = .ok (.iload 6, 2) := by decide +kernel
theorem dX7_costOf_119 : decode cX7_costOf 119 = .ok (.ireturn, 1) := by decide +kernel
theorem dX7_gathers_0 : decode cX7_gathers 0 = .ok (.aload_n 0, 1) := by decide +kernel
theorem dX7_gathers_1 : decode cX7_gathers 1 = .ok (.iconst 0, 1) := by decide +kernel
theorem dX7_gathers_2 : decode cX7_gathers 2 = .ok (.putfield 154, 3) := by decide +kernel
theorem dX7_gathers_5 : decode cX7_gathers 5 = .ok (.iconst 0, 1) := by decide +kernel
theorem dX7_gathers_6 : decode cX7_gathers 6 = .ok (.istore_n 2, 1) := by decide +kernel
theorem dX7_gathers_7 : decode cX7_gathers 7 = .ok (.iload_n 2, 1) := by decide +kernel
theorem dX7_gathers_8 : decode cX7_gathers 8 = .ok (.aload_n 0, 1) := by decide +kernel
theorem dX7_gathers_9 : decode cX7_gathers 9 = .ok (.getfield 138, 3) := by decide +kernel
theorem dX7_gathers_12 : decode cX7_gathers 12 = .ok (.if_icmp .ge 60, 3) := by decide +kernel
theorem dX7_gathers_15 : decode cX7_gathers 15 = .ok (.aload_n 0, 1) := by decide +kernel
theorem dX7_gathers_16 : decode cX7_gathers 16 = .ok (.getfield 154, 3) := by decide +kernel
theorem dX7_gathers_19 : decode cX7_gathers 19 = .ok (.bipush 8, 2) := by decide +kernel
theorem dX7_gathers_21 : decode cX7_gathers 21 = .ok (.if_icmp .ge 51, 3) := by decide +kernel
theorem dX7_gathers_24 : decode cX7_gathers 24 = .ok (.aload_n 0, 1) := by decide +kernel
theorem dX7_gathers_25 : decode cX7_gathers 25 = .ok (.getfield 36, 3) := by decide +kernel
theorem dX7_gathers_28 : decode cX7_gathers 28 = .ok (.iload_n 2, 1) := by decide +kernel
theorem dX7_gathers_29 : decode cX7_gathers 29 = .ok (.iaload, 1) := by decide +kernel
theorem dX7_gathers_30 : decode cX7_gathers 30 = .ok (.iload_n 1, 1) := by decide +kernel
theorem dX7_gathers_31 : decode cX7_gathers 31 = .ok (.if_icmp .ne 35, 3) := by decide +kernel
theorem dX7_gathers_34 : decode cX7_gathers 34 = .ok (.aload_n 0, 1) := by decide +kernel
theorem dX7_gathers_35 : decode cX7_gathers 35 = .ok (.getfield 48, 3) := by decide +kernel
theorem dX7_gathers_38 : decode cX7_gathers 38 = .ok (.iload_n 2, 1) := by decide +kernel
theorem dX7_gathers_39 : decode cX7_gathers 39 = .ok (.iaload, 1) := by decide +kernel
theorem dX7_gathers_40 : decode cX7_gathers 40 = .ok (.ifCond .eq 6, 3) := by decide +kernel
theorem dX7_gathers_43 : decode cX7_gathers 43 = .ok (.goto 23, 3) := by decide +kernel
theorem dX7_gathers_46 : decode cX7_gathers 46 = .ok (.aload_n 0, 1) := by decide +kernel
theorem dX7_gathers_47 : decode cX7_gathers 47 = .ok (.getfield 57, 3) := by decide +kernel
theorem dX7_gathers_50 : decode cX7_gathers 50 = .ok (.aload_n 0, 1) := by decide +kernel
theorem dX7_gathers_51 : decode cX7_gathers 51 = .ok (.getfield 154, 3) := by decide +kernel
theorem dX7_gathers_54 : decode cX7_gathers 54 = .ok (.iload_n 2, 1) := by decide +kernel
theorem dX7_gathers_55 : decode cX7_gathers 55 = .ok (.iastore, 1) := by decide +kernel
theorem dX7_gathers_56 : decode cX7_gathers 56 = .ok (.aload_n 0, 1) := by decide +kernel
theorem dX7_gathers_57 : decode cX7_gathers 57 = .ok (.dup, 1) := by decide +kernel
theorem dX7_gathers_58 : decode cX7_gathers 58 = .ok (.getfield 154, 3) := by decide +kernel
theorem dX7_gathers_61 : decode cX7_gathers 61 = .ok (.iconst 1, 1) := by decide +kernel
theorem dX7_gathers_62 : decode cX7_gathers 62 = .ok (.iadd, 1) := by decide +kernel
theorem dX7_gathers_63 : decode cX7_gathers 63 = .ok (.putfield 154, 3) := by decide +kernel
theorem dX7_gathers_66 : decode cX7_gathers 66 = .ok (.iinc 2 1, 3) := by decide +kernel
theorem dX7_gathers_69 : decode cX7_gathers 69 = .ok (.goto (-62), 3) := by decide +kernel
theorem dX7_gathers_72 : decode cX7_gathers 72 = .ok (.return_, 1) := by decide +kernel
theorem dX7_tries_0 : decode cX7_tries 0 = .ok (.iload 7, 2) := by decide +kernel
theorem dX7_tries_2 : decode cX7_tries 2 = .ok (.ifCond .eq 8, 3) := by decide +kernel
theorem dX7_tries_5 : decode cX7_tries 5 = .ok (.iload 6, 2) := by decide +kernel
theorem dX7_tries_7 : decode cX7_tries 7 = .ok (.goto 5, 3) := by decide +kernel
theorem dX7_tries_10 : decode cX7_tries 10 = .ok (.iload 5, 2) := by decide +kernel
theorem dX7_tries_12 : decode cX7_tries 12 = .ok (.istore 8, 2) := by decide +kernel
theorem dX7_tries_14 : decode cX7_tries 14 = .ok (.aload_n 0, 1) := by decide +kernel
theorem dX7_tries_15 : decode cX7_tries 15 = .ok (.getfield 157, 3) := by decide +kernel
theorem dX7_tries_18 : decode cX7_tries 18 = .ok (.iconst (-1), 1) := by decide +kernel
theorem dX7_tries_19 : decode cX7_tries 19 = .ok (.if_icmp .eq 13, 3) := by decide +kernel
theorem dX7_tries_22 : decode cX7_tries 22 = .ok (.iload 8, 2) := by decide +kernel
theorem dX7_tries_24 : decode cX7_tries 24 = .ok (.aload_n 0, 1) := by decide +kernel
theorem dX7_tries_25 : decode cX7_tries 25 = .ok (.getfield 157, 3) := by decide +kernel
theorem dX7_tries_28 : decode cX7_tries 28 = .ok (.if_icmp .lt 4, 3) := by decide +kernel
theorem dX7_tries_31 : decode cX7_tries 31 = .ok (.return_, 1) := by decide +kernel
theorem dX7_tries_32 : decode cX7_tries 32 = .ok (.iload_n 1, 1) := by decide +kernel
theorem dX7_tries_33 : decode cX7_tries 33 = .ok (.aload_n 0, 1) := by decide +kernel
theorem dX7_tries_34 : decode cX7_tries 34 = .ok (.getfield 154, 3) := by decide +kernel
theorem dX7_tries_37 : decode cX7_tries 37 = .ok (.if_icmp .ne 39, 3) := by decide +kernel
theorem dX7_tries_40 : decode cX7_tries 40 = .ok (.aload_n 0, 1) := by decide +kernel
theorem dX7_tries_41 : decode cX7_tries 41 = .ok (.iload 8, 2) := by decide +kernel
theorem dX7_tries_43 : decode cX7_tries 43 = .ok (.putfield 157, 3) := by decide +kernel
theorem dX7_tries_46 : decode cX7_tries 46 = .ok (.iconst 0, 1) := by decide +kernel
theorem dX7_tries_47 : decode cX7_tries 47 = .ok (.istore 9, 2) := by decide +kernel
theorem dX7_tries_49 : decode cX7_tries 49 = .ok (.iload 9, 2) := by decide +kernel
theorem dX7_tries_51 : decode cX7_tries 51 = .ok (.iload_n 1, 1) := by decide +kernel
theorem dX7_tries_52 : decode cX7_tries 52 = .ok (.if_icmp .ge 23, 3) := by decide +kernel
theorem dX7_tries_55 : decode cX7_tries 55 = .ok (.aload_n 0, 1) := by decide +kernel
theorem dX7_tries_56 : decode cX7_tries 56 = .ok (.getfield 63, 3) := by decide +kernel
theorem dX7_tries_59 : decode cX7_tries 59 = .ok (.iload 9, 2) := by decide +kernel
theorem dX7_tries_61 : decode cX7_tries 61 = .ok (.aload_n 0, 1) := by decide +kernel
theorem dX7_tries_62 : decode cX7_tries 62 = .ok (.getfield 60, 3) := by decide +kernel
theorem dX7_tries_65 : decode cX7_tries 65 = .ok (.iload 9, 2) := by decide +kernel
theorem dX7_tries_67 : decode cX7_tries 67 = .ok (.iaload, 1) := by decide +kernel
theorem dX7_tries_68 : decode cX7_tries 68 = .ok (.iastore, 1) := by decide +kernel
theorem dX7_tries_69 : decode cX7_tries 69 = .ok (.iinc 9 1, 3) := by decide +kernel
theorem dX7_tries_72 : decode cX7_tries 72 = .ok (.goto (-23), 3) := by decide +kernel
theorem dX7_tries_75 : decode cX7_tries 75 = .ok (.return_, 1) := by decide +kernel
theorem dX7_tries_76 : decode cX7_tries 76 = .ok (.iconst 0, 1) := by decide +kernel
theorem dX7_tries_77 : decode cX7_tries 77 = .ok (.istore 9, 2) := by decide +kernel
theorem dX7_tries_79 : decode cX7_tries 79 = .ok (.iload 9, 2) := by decide +kernel
theorem dX7_tries_81 : decode cX7_tries 81 = .ok (.aload_n 0, 1) := by decide +kernel
theorem dX7_tries_82 : decode cX7_tries 82 = .ok (.getfield 154, 3) := by decide +kernel
theorem dX7_tries_85 : decode cX7_tries 85 = .ok (.if_icmp .ge 98, 3) := by decide +kernel
theorem dX7_tries_88 : decode cX7_tries 88 = .ok (.iload_n 2, 1) := by decide +kernel
theorem dX7_tries_89 : decode cX7_tries 89 = .ok (.iload 9, 2) := by decide +kernel
theorem dX7_tries_91 : decode cX7_tries 91 = .ok (.ishr, 1) := by decide +kernel
theorem dX7_tries_92 : decode cX7_tries 92 = .ok (.iconst 1, 1) := by decide +kernel
theorem dX7_tries_93 : decode cX7_tries 93 = .ok (.iand, 1) := by decide +kernel
theorem dX7_tries_94 : decode cX7_tries 94 = .ok (.iconst 1, 1) := by decide +kernel
theorem dX7_tries_95 : decode cX7_tries 95 = .ok (.if_icmp .ne 6, 3) := by decide +kernel
theorem dX7_tries_98 : decode cX7_tries 98 = .ok (.goto 79, 3) := by decide +kernel
theorem dX7_tries_101 : decode cX7_tries 101 = .ok (.aload_n 0, 1) := by decide +kernel
theorem dX7_tries_102 : decode cX7_tries 102 = .ok (.aload_n 0, 1) := by decide +kernel
theorem dX7_tries_103 : decode cX7_tries 103 = .ok (.getfield 57, 3) := by decide +kernel
theorem dX7_tries_106 : decode cX7_tries 106 = .ok (.iload 9, 2) := by decide +kernel
theorem dX7_tries_108 : decode cX7_tries 108 = .ok (.iaload, 1) := by decide +kernel
theorem dX7_tries_109 : decode cX7_tries 109 = .ok (.iload_n 3, 1) := by decide +kernel
theorem dX7_tries_110 : decode cX7_tries 110 = .ok (.iload 4, 2) := by decide +kernel
theorem dX7_tries_112 : decode cX7_tries 112 = .ok (.invokevirtual 160, 3) := by decide +kernel
theorem dX7_tries_115 : decode cX7_tries 115 = .ok (.istore 10, 2) := by decide +kernel
theorem dX7_tries_117 : decode cX7_tries 117 = .ok (.aload_n 0, 1) := by decide +kernel
theorem dX7_tries_118 : decode cX7_tries 118 = .ok (.getfield 151, 3) := by decide +kernel
theorem dX7_tries_121 : decode cX7_tries 121 = .ok (.istore 11, 2) := by decide +kernel
theorem dX7_tries_123 : decode cX7_tries 123 = .ok (.aload_n 0, 1) := by decide +kernel
theorem dX7_tries_124 : decode cX7_tries 124 = .ok (.getfield 60, 3) := by decide +kernel
theorem dX7_tries_127 : decode cX7_tries 127 = .ok (.iload_n 1, 1) := by decide +kernel
theorem dX7_tries_128 : decode cX7_tries 128 = .ok (.aload_n 0, 1) := by decide +kernel
theorem dX7_tries_129 : decode cX7_tries 129 = .ok (.getfield 57, 3) := by decide +kernel
theorem dX7_tries_132 : decode cX7_tries 132 = .ok (.iload 9, 2) := by decide +kernel
theorem dX7_tries_134 : decode cX7_tries 134 = .ok (.iaload, 1) := by decide +kernel
theorem dX7_tries_135 : decode cX7_tries 135 = .ok (.iastore, 1) := by decide +kernel
theorem dX7_tries_136 : decode cX7_tries 136 = .ok (.aload_n 0, 1) := by decide +kernel
theorem dX7_tries_137 : decode cX7_tries 137 = .ok (.iload_n 1, 1) := by decide +kernel
theorem dX7_tries_138 : decode cX7_tries 138 = .ok (.iconst 1, 1) := by decide +kernel
theorem dX7_tries_139 : decode cX7_tries 139 = .ok (.iadd, 1) := by decide +kernel
theorem dX7_tries_140 : decode cX7_tries 140 = .ok (.iload_n 2, 1) := by decide +kernel
theorem dX7_tries_141 : decode cX7_tries 141 = .ok (.iconst 1, 1) := by decide +kernel
theorem dX7_tries_142 : decode cX7_tries 142 = .ok (.iload 9, 2) := by decide +kernel
theorem dX7_tries_144 : decode cX7_tries 144 = .ok (.ishl, 1) := by decide +kernel
theorem dX7_tries_145 : decode cX7_tries 145 = .ok (.ior, 1) := by decide +kernel
theorem dX7_tries_146 : decode cX7_tries 146 = .ok (.aload_n 0, 1) := by decide +kernel
theorem dX7_tries_147 : decode cX7_tries 147 = .ok (.aload_n 0, 1) := by decide +kernel
theorem dX7_tries_148 : decode cX7_tries 148 = .ok (.getfield 57, 3) := by decide +kernel
theorem dX7_tries_151 : decode cX7_tries 151 = .ok (.iload 9, 2) := by decide +kernel
theorem dX7_tries_153 : decode cX7_tries 153 = .ok (.iaload, 1) := by decide +kernel
theorem dX7_tries_154 : decode cX7_tries 154 = .ok (.invokevirtual 148, 3) := by decide +kernel
theorem dX7_tries_157 : decode cX7_tries 157 = .ok (.iload 11, 2) := by decide +kernel
theorem dX7_tries_159 : decode cX7_tries 159 = .ok (.iload 5, 2) := by decide +kernel
theorem dX7_tries_161 : decode cX7_tries 161 = .ok (.iload 10, 2) := by decide +kernel
theorem dX7_tries_163 : decode cX7_tries 163 = .ok (.iadd, 1) := by decide +kernel
theorem dX7_tries_164 : decode cX7_tries 164 = .ok (.iload 6, 2) := by decide +kernel
theorem dX7_tries_166 : decode cX7_tries 166 = .ok (.iload 5, 2) := by decide +kernel
theorem dX7_tries_168 : decode cX7_tries 168 = .ok (.iadd, 1) := by decide +kernel
theorem dX7_tries_169 : decode cX7_tries 169 = .ok (.iload 10, 2) := by decide +kernel
theorem dX7_tries_171 : decode cX7_tries 171 = .ok (.iadd, 1) := by decide +kernel
theorem dX7_tries_172 : decode cX7_tries 172 = .ok (.iload 7, 2) := by decide +kernel
theorem dX7_tries_174 : decode cX7_tries 174 = .ok (.invokevirtual 164, 3) := by decide +kernel
theorem dX7_tries_177 : decode cX7_tries 177 = .ok (.iinc 9 1, 3) := by decide +kernel
theorem dX7_tries_180 : decode cX7_tries 180 = .ok (.goto (-101), 3) := by decide +kernel
theorem dX7_tries_183 : decode cX7_tries 183 = .ok (.return_, 1) := by decide +kernel
theorem dX7_orders_0 : decode cX7_orders 0 = .ok (.aload_n 0, 1) := by decide +kernel
theorem dX7_orders_1 : decode cX7_orders 1 = .ok (.iload_n 1, 1) := by decide +kernel
theorem dX7_orders_2 : decode cX7_orders 2 = .ok (.invokevirtual 168, 3) := by decide +kernel
theorem dX7_orders_5 : decode cX7_orders 5 = .ok (.aload_n 0, 1) := by decide +kernel
theorem dX7_orders_6 : decode cX7_orders 6 = .ok (.iconst (-1), 1) := by decide +kernel
theorem dX7_orders_7 : decode cX7_orders 7 = .ok (.putfield 157, 3) := by decide +kernel
theorem dX7_orders_10 : decode cX7_orders 10 = .ok (.aload_n 0, 1) := by decide +kernel
theorem dX7_orders_11 : decode cX7_orders 11 = .ok (.iconst 0, 1) := by decide +kernel
theorem dX7_orders_12 : decode cX7_orders 12 = .ok (.iconst 0, 1) := by decide +kernel
theorem dX7_orders_13 : decode cX7_orders 13 = .ok (.aload_n 0, 1) := by decide +kernel
theorem dX7_orders_14 : decode cX7_orders 14 = .ok (.getfield 19, 3) := by decide +kernel
theorem dX7_orders_17 : decode cX7_orders 17 = .ok (.iload_n 1, 1) := by decide +kernel
theorem dX7_orders_18 : decode cX7_orders 18 = .ok (.iaload, 1) := by decide +kernel
theorem dX7_orders_19 : decode cX7_orders 19 = .ok (.iconst 0, 1) := by decide +kernel
theorem dX7_orders_20 : decode cX7_orders 20 = .ok (.iconst 0, 1) := by decide +kernel
theorem dX7_orders_21 : decode cX7_orders 21 = .ok (.iconst 0, 1) := by decide +kernel
theorem dX7_orders_22 : decode cX7_orders 22 = .ok (.iload_n 2, 1) := by decide +kernel
theorem dX7_orders_23 : decode cX7_orders 23 = .ok (.invokevirtual 164, 3) := by decide +kernel
theorem dX7_orders_26 : decode cX7_orders 26 = .ok (.return_, 1) := by decide +kernel
theorem dX7_order_0 : decode cX7_order 0 = .ok (.aload_n 0, 1) := by decide +kernel
theorem dX7_order_1 : decode cX7_order 1 = .ok (.iconst 0, 1) := by decide +kernel
theorem dX7_order_2 : decode cX7_order 2 = .ok (.putfield 121, 3) := by decide +kernel
theorem dX7_order_5 : decode cX7_order 5 = .ok (.aload_n 0, 1) := by decide +kernel
theorem dX7_order_6 : decode cX7_order 6 = .ok (.iload_n 1, 1) := by decide +kernel
theorem dX7_order_7 : decode cX7_order 7 = .ok (.invokevirtual 131, 3) := by decide +kernel
theorem dX7_order_10 : decode cX7_order 10 = .ok (.ifCond .ne 5, 3) := by decide +kernel
theorem dX7_order_13 : decode cX7_order 13 = .ok (.iconst (-1), 1) := by decide +kernel
theorem dX7_order_14 : decode cX7_order 14 = .ok (.ireturn, 1) := by decide +kernel
theorem dX7_order_15 : decode cX7_order 15 = .ok (.aload_n 0, 1) := by decide +kernel
theorem dX7_order_16 : decode cX7_order 16 = .ok (.iload_n 1, 1) := by decide +kernel
theorem dX7_order_17 : decode cX7_order 17 = .ok (.iconst 0, 1) := by decide +kernel
theorem dX7_order_18 : decode cX7_order 18 = .ok (.invokevirtual 172, 3) := by decide +kernel
theorem dX7_order_21 : decode cX7_order 21 = .ok (.iload_n 2, 1) := by decide +kernel
theorem dX7_order_22 : decode cX7_order 22 = .ok (.iconst 0, 1) := by decide +kernel
theorem dX7_order_23 : decode cX7_order 23 = .ok (.aload_n 0, 1) := by decide +kernel
theorem dX7_order_24 : decode cX7_order 24 = .ok (.getfield 154, 3) := by decide +kernel
theorem dX7_order_27 : decode cX7_order 27 = .ok (.iconst 1, 1) := by decide +kernel
theorem dX7_order_28 : decode cX7_order 28 = .ok (.isub, 1) := by decide +kernel
theorem dX7_order_29 : decode cX7_order 29 = .ok (.invokestatic 127, 3) := by decide +kernel
theorem dX7_order_32 : decode cX7_order 32 = .ok (.ifCond .eq 12, 3) := by decide +kernel
theorem dX7_order_35 : decode cX7_order 35 = .ok (.aload_n 0, 1) := by decide +kernel
theorem dX7_order_36 : decode cX7_order 36 = .ok (.getfield 63, 3) := by decide +kernel
theorem dX7_order_39 : decode cX7_order 39 = .ok (.iload_n 2, 1) := by decide +kernel
theorem dX7_order_40 : decode cX7_order 40 = .ok (.iaload, 1) := by decide +kernel
theorem dX7_order_41 : decode cX7_order 41 = .ok (.goto 4, 3) := by decide +kernel
theorem dX7_order_44 : decode cX7_order 44 = .ok (.iconst (-1), 1) := by decide +kernel
theorem dX7_order_45 : decode cX7_order 45 = .ok (.ireturn, 1) := by decide +kernel
theorem dX7_told_0 : decode cX7_told 0 = .ok (.aload_n 0, 1) := by decide +kernel
theorem dX7_told_1 : decode cX7_told 1 = .ok (.iconst 0, 1) := by decide +kernel
theorem dX7_told_2 : decode cX7_told 2 = .ok (.putfield 121, 3) := by decide +kernel
theorem dX7_told_5 : decode cX7_told 5 = .ok (.aload_n 0, 1) := by decide +kernel
theorem dX7_told_6 : decode cX7_told 6 = .ok (.iload_n 1, 1) := by decide +kernel
theorem dX7_told_7 : decode cX7_told 7 = .ok (.invokevirtual 131, 3) := by decide +kernel
theorem dX7_told_10 : decode cX7_told 10 = .ok (.ifCond .eq 12, 3) := by decide +kernel
theorem dX7_told_13 : decode cX7_told 13 = .ok (.iload_n 2, 1) := by decide +kernel
theorem dX7_told_14 : decode cX7_told 14 = .ok (.iconst 0, 1) := by decide +kernel
theorem dX7_told_15 : decode cX7_told 15 = .ok (.iconst 2, 1) := by decide +kernel
theorem dX7_told_16 : decode cX7_told 16 = .ok (.invokestatic 127, 3) := by decide +kernel
theorem dX7_told_19 : decode cX7_told 19 = .ok (.ifCond .ne 5, 3) := by decide +kernel
theorem dX7_told_22 : decode cX7_told 22 = .ok (.iconst (-1), 1) := by decide +kernel
theorem dX7_told_23 : decode cX7_told 23 = .ok (.ireturn, 1) := by decide +kernel
theorem dX7_told_24 : decode cX7_told 24 = .ok (.aload_n 0, 1) := by decide +kernel
theorem dX7_told_25 : decode cX7_told 25 = .ok (.iload_n 1, 1) := by decide +kernel
theorem dX7_told_26 : decode cX7_told 26 = .ok (.iload_n 2, 1) := by decide +kernel
theorem dX7_told_27 : decode cX7_told 27 = .ok (.iconst 2, 1) := by decide +kernel
theorem dX7_told_28 : decode cX7_told 28 = .ok (.if_icmp .ne 7, 3) := by decide +kernel
theorem dX7_told_31 : decode cX7_told 31 = .ok (.iconst 1, 1) := by decide +kernel
theorem dX7_told_32 : decode cX7_told 32 = .ok (.goto 4, 3) := by decide +kernel
theorem dX7_told_35 : decode cX7_told 35 = .ok (.iconst 0, 1) := by decide +kernel
theorem dX7_told_36 : decode cX7_told 36 = .ok (.invokevirtual 172, 3) := by decide +kernel
theorem dX7_told_39 : decode cX7_told 39 = .ok (.iload_n 2, 1) := by decide +kernel
theorem dX7_told_40 : decode cX7_told 40 = .ok (.iconst 1, 1) := by decide +kernel
theorem dX7_told_41 : decode cX7_told 41 = .ok (.if_icmp .eq 8, 3) := by decide +kernel
theorem dX7_told_44 : decode cX7_told 44 = .ok (.aload_n 0, 1) := by decide +kernel
theorem dX7_told_45 : decode cX7_told 45 = .ok (.getfield 157, 3) := by decide +kernel
theorem dX7_told_48 : decode cX7_told 48 = .ok (.ireturn, 1) := by decide +kernel
theorem dX7_told_49 : decode cX7_told 49 = .ok (.aload_n 0, 1) := by decide +kernel
theorem dX7_told_50 : decode cX7_told 50 = .ok (.getfield 19, 3) := by decide +kernel
theorem dX7_told_53 : decode cX7_told 53 = .ok (.iload_n 1, 1) := by decide +kernel
theorem dX7_told_54 : decode cX7_told 54 = .ok (.iaload, 1) := by decide +kernel
theorem dX7_told_55 : decode cX7_told 55 = .ok (.istore_n 3, 1) := by decide +kernel
theorem dX7_told_56 : decode cX7_told 56 = .ok (.iconst 0, 1) := by decide +kernel
theorem dX7_told_57 : decode cX7_told 57 = .ok (.istore 4, 2) := by decide +kernel
theorem dX7_told_59 : decode cX7_told 59 = .ok (.iconst 0, 1) := by decide +kernel
theorem dX7_told_60 : decode cX7_told 60 = .ok (.istore 5, 2) := by decide +kernel
theorem dX7_told_62 : decode cX7_told 62 = .ok (.iconst 0, 1) := by decide +kernel
theorem dX7_told_63 : decode cX7_told 63 = .ok (.istore 6, 2) := by decide +kernel
theorem dX7_told_65 : decode cX7_told 65 = .ok (.iconst 0, 1) := by decide +kernel
theorem dX7_told_66 : decode cX7_told 66 = .ok (.istore 7, 2) := by decide +kernel
theorem dX7_told_68 : decode cX7_told 68 = .ok (.iload 7, 2) := by decide +kernel
theorem dX7_told_70 : decode cX7_told 70 = .ok (.aload_n 0, 1) := by decide +kernel
theorem dX7_told_71 : decode cX7_told 71 = .ok (.getfield 154, 3) := by decide +kernel
theorem dX7_told_74 : decode cX7_told 74 = .ok (.if_icmp .ge 53, 3) := by decide +kernel
theorem dX7_told_77 : decode cX7_told 77 = .ok (.iload 5, 2) := by decide +kernel
theorem dX7_told_79 : decode cX7_told 79 = .ok (.aload_n 0, 1) := by decide +kernel
theorem dX7_told_80 : decode cX7_told 80 = .ok (.aload_n 0, 1) := by decide +kernel
theorem dX7_told_81 : decode cX7_told 81 = .ok (.getfield 63, 3) := by decide +kernel
theorem dX7_told_84 : decode cX7_told 84 = .ok (.iload 7, 2) := by decide +kernel
theorem dX7_told_86 : decode cX7_told 86 = .ok (.iaload, 1) := by decide +kernel
theorem dX7_told_87 : decode cX7_told 87 = .ok (.iload_n 3, 1) := by decide +kernel
theorem dX7_told_88 : decode cX7_told 88 = .ok (.iload 4, 2) := by decide +kernel
theorem dX7_told_90 : decode cX7_told 90 = .ok (.invokevirtual 160, 3) := by decide +kernel
theorem dX7_told_93 : decode cX7_told 93 = .ok (.iadd, 1) := by decide +kernel
theorem dX7_told_94 : decode cX7_told 94 = .ok (.istore 5, 2) := by decide +kernel
theorem dX7_told_96 : decode cX7_told 96 = .ok (.aload_n 0, 1) := by decide +kernel
theorem dX7_told_97 : decode cX7_told 97 = .ok (.getfield 151, 3) := by decide +kernel
theorem dX7_told_100 : decode cX7_told 100 = .ok (.istore 4, 2) := by decide +kernel
theorem dX7_told_102 : decode cX7_told 102 = .ok (.aload_n 0, 1) := by decide +kernel
theorem dX7_told_103 : decode cX7_told 103 = .ok (.aload_n 0, 1) := by decide +kernel
theorem dX7_told_104 : decode cX7_told 104 = .ok (.getfield 63, 3) := by decide +kernel
theorem dX7_told_107 : decode cX7_told 107 = .ok (.iload 7, 2) := by decide +kernel
theorem dX7_told_109 : decode cX7_told 109 = .ok (.iaload, 1) := by decide +kernel
theorem dX7_told_110 : decode cX7_told 110 = .ok (.invokevirtual 148, 3) := by decide +kernel
theorem dX7_told_113 : decode cX7_told 113 = .ok (.istore_n 3, 1) := by decide +kernel
theorem dX7_told_114 : decode cX7_told 114 = .ok (.iload 6, 2) := by decide +kernel
theorem dX7_told_116 : decode cX7_told 116 = .ok (.iload 5, 2) := by decide +kernel
theorem dX7_told_118 : decode cX7_told 118 = .ok (.iadd, 1) := by decide +kernel
theorem dX7_told_119 : decode cX7_told 119 = .ok (.istore 6, 2) := by decide +kernel
theorem dX7_told_121 : decode cX7_told 121 = .ok (.iinc 7 1, 3) := by decide +kernel
theorem dX7_told_124 : decode cX7_told 124 = .ok (.goto (-56), 3) := by decide +kernel
theorem dX7_told_127 : decode cX7_told 127 = .ok (.iload 6, 2) := by decide +kernel
theorem dX7_told_129 : decode cX7_told 129 = .ok (.ireturn, 1) := by decide +kernel
theorem dX7_reader_0 : decode cX7_reader 0 = .ok (.aload_n 0, 1) := by decide +kernel
theorem dX7_reader_1 : decode cX7_reader 1 = .ok (.iconst 0, 1) := by decide +kernel
theorem dX7_reader_2 : decode cX7_reader 2 = .ok (.putfield 121, 3) := by decide +kernel
theorem dX7_reader_5 : decode cX7_reader 5 = .ok (.iconst 0, 1) := by decide +kernel
theorem dX7_reader_6 : decode cX7_reader 6 = .ok (.istore_n 2, 1) := by decide +kernel
theorem dX7_reader_7 : decode cX7_reader 7 = .ok (.iconst 0, 1) := by decide +kernel
theorem dX7_reader_8 : decode cX7_reader 8 = .ok (.istore_n 3, 1) := by decide +kernel
theorem dX7_reader_9 : decode cX7_reader 9 = .ok (.iload_n 3, 1) := by decide +kernel
theorem dX7_reader_10 : decode cX7_reader 10 = .ok (.aload_n 0, 1) := by decide +kernel
theorem dX7_reader_11 : decode cX7_reader 11 = .ok (.getfield 176, 3) := by decide +kernel
theorem dX7_reader_14 : decode cX7_reader 14 = .ok (.if_icmp .ge 29, 3) := by decide +kernel
theorem dX7_reader_17 : decode cX7_reader 17 = .ok (.iload_n 2, 1) := by decide +kernel
theorem dX7_reader_18 : decode cX7_reader 18 = .ok (.ifCond .ne 13, 3) := by decide +kernel
theorem dX7_reader_21 : decode cX7_reader 21 = .ok (.aload_n 0, 1) := by decide +kernel
theorem dX7_reader_22 : decode cX7_reader 22 = .ok (.getfield 66, 3) := by decide +kernel
theorem dX7_reader_25 : decode cX7_reader 25 = .ok (.iload_n 3, 1) := by decide +kernel
theorem dX7_reader_26 : decode cX7_reader 26 = .ok (.iaload, 1) := by decide +kernel
theorem dX7_reader_27 : decode cX7_reader 27 = .ok (.iload_n 1, 1) := by decide +kernel
theorem dX7_reader_28 : decode cX7_reader 28 = .ok (.if_icmp .ne 7, 3) := by decide +kernel
theorem dX7_reader_31 : decode cX7_reader 31 = .ok (.iconst 1, 1) := by decide +kernel
theorem dX7_reader_32 : decode cX7_reader 32 = .ok (.goto 4, 3) := by decide +kernel
theorem dX7_reader_35 : decode cX7_reader 35 = .ok (.iconst 0, 1) := by decide +kernel
theorem dX7_reader_36 : decode cX7_reader 36 = .ok (.istore_n 2, 1) := by decide +kernel
theorem dX7_reader_37 : decode cX7_reader 37 = .ok (.iinc 3 1, 3) := by decide +kernel
theorem dX7_reader_40 : decode cX7_reader 40 = .ok (.goto (-31), 3) := by decide +kernel
theorem dX7_reader_43 : decode cX7_reader 43 = .ok (.iload_n 1, 1) := by decide +kernel
theorem dX7_reader_44 : decode cX7_reader 44 = .ok (.iconst 0, 1) := by decide +kernel
theorem dX7_reader_45 : decode cX7_reader 45 = .ok (.bipush 39, 2) := by decide +kernel
theorem dX7_reader_47 : decode cX7_reader 47 = .ok (.invokestatic 127, 3) := by decide +kernel
theorem dX7_reader_50 : decode cX7_reader 50 = .ok (.ifCond .eq 15, 3) := by decide +kernel
theorem dX7_reader_53 : decode cX7_reader 53 = .ok (.iload_n 2, 1) := by decide +kernel
theorem dX7_reader_54 : decode cX7_reader 54 = .ok (.ifCond .ne 11, 3) := by decide +kernel
theorem dX7_reader_57 : decode cX7_reader 57 = .ok (.aload_n 0, 1) := by decide +kernel
theorem dX7_reader_58 : decode cX7_reader 58 = .ok (.getfield 176, 3) := by decide +kernel
theorem dX7_reader_61 : decode cX7_reader 61 = .ok (.iconst 3, 1) := by decide +kernel
theorem dX7_reader_62 : decode cX7_reader 62 = .ok (.if_icmp .ne 5, 3) := by decide +kernel
theorem dX7_reader_65 : decode cX7_reader 65 = .ok (.iconst (-1), 1) := by decide +kernel
theorem dX7_reader_66 : decode cX7_reader 66 = .ok (.ireturn, 1) := by decide +kernel
theorem dX7_reader_67 : decode cX7_reader 67 = .ok (.aload_n 0, 1) := by decide +kernel
theorem dX7_reader_68 : decode cX7_reader 68 = .ok (.getfield 66, 3) := by decide +kernel
theorem dX7_reader_71 : decode cX7_reader 71 = .ok (.aload_n 0, 1) := by decide +kernel
theorem dX7_reader_72 : decode cX7_reader 72 = .ok (.getfield 176, 3) := by decide +kernel
theorem dX7_reader_75 : decode cX7_reader 75 = .ok (.iload_n 1, 1) := by decide +kernel
theorem dX7_reader_76 : decode cX7_reader 76 = .ok (.iastore, 1) := by decide +kernel
theorem dX7_reader_77 : decode cX7_reader 77 = .ok (.aload_n 0, 1) := by decide +kernel
theorem dX7_reader_78 : decode cX7_reader 78 = .ok (.getfield 69, 3) := by decide +kernel
theorem dX7_reader_81 : decode cX7_reader 81 = .ok (.aload_n 0, 1) := by decide +kernel
theorem dX7_reader_82 : decode cX7_reader 82 = .ok (.getfield 176, 3) := by decide +kernel
theorem dX7_reader_85 : decode cX7_reader 85 = .ok (.iconst 0, 1) := by decide +kernel
theorem dX7_reader_86 : decode cX7_reader 86 = .ok (.iastore, 1) := by decide +kernel
theorem dX7_reader_87 : decode cX7_reader 87 = .ok (.aload_n 0, 1) := by decide +kernel
theorem dX7_reader_88 : decode cX7_reader 88 = .ok (.getfield 72, 3) := by decide +kernel
theorem dX7_reader_91 : decode cX7_reader 91 = .ok (.aload_n 0, 1) := by decide +kernel
theorem dX7_reader_92 : decode cX7_reader 92 = .ok (.getfield 176, 3) := by decide +kernel
theorem dX7_reader_95 : decode cX7_reader 95 = .ok (.iconst (-1), 1) := by decide +kernel
theorem dX7_reader_96 : decode cX7_reader 96 = .ok (.iastore, 1) := by decide +kernel
theorem dX7_reader_97 : decode cX7_reader 97 = .ok (.aload_n 0, 1) := by decide +kernel
theorem dX7_reader_98 : decode cX7_reader 98 = .ok (.dup, 1) := by decide +kernel
theorem dX7_reader_99 : decode cX7_reader 99 = .ok (.getfield 176, 3) := by decide +kernel
theorem dX7_reader_102 : decode cX7_reader 102 = .ok (.iconst 1, 1) := by decide +kernel
theorem dX7_reader_103 : decode cX7_reader 103 = .ok (.iadd, 1) := by decide +kernel
theorem dX7_reader_104 : decode cX7_reader 104 = .ok (.putfield 176, 3) := by decide +kernel
theorem dX7_reader_107 : decode cX7_reader 107 = .ok (.aload_n 0, 1) := by decide +kernel
theorem dX7_reader_108 : decode cX7_reader 108 = .ok (.getfield 176, 3) := by decide +kernel
theorem dX7_reader_111 : decode cX7_reader 111 = .ok (.iconst 1, 1) := by decide +kernel
theorem dX7_reader_112 : decode cX7_reader 112 = .ok (.isub, 1) := by decide +kernel
theorem dX7_reader_113 : decode cX7_reader 113 = .ok (.ireturn, 1) := by decide +kernel
theorem dX7_isReader_0 : decode cX7_isReader 0 = .ok (.iload_n 1, 1) := by decide +kernel
theorem dX7_isReader_1 : decode cX7_isReader 1 = .ok (.iconst 0, 1) := by decide +kernel
theorem dX7_isReader_2 : decode cX7_isReader 2 = .ok (.aload_n 0, 1) := by decide +kernel
theorem dX7_isReader_3 : decode cX7_isReader 3 = .ok (.getfield 176, 3) := by decide +kernel
theorem dX7_isReader_6 : decode cX7_isReader 6 = .ok (.iconst 1, 1) := by decide +kernel
theorem dX7_isReader_7 : decode cX7_isReader 7 = .ok (.isub, 1) := by decide +kernel
theorem dX7_isReader_8 : decode cX7_isReader 8 = .ok (.invokestatic 127, 3) := by decide +kernel
theorem dX7_isReader_11 : decode cX7_isReader 11 = .ok (.ireturn, 1) := by decide +kernel
theorem dX7_breaks_0 : decode cX7_breaks 0 = .ok (.aload_n 0, 1) := by decide +kernel
theorem dX7_breaks_1 : decode cX7_breaks 1 = .ok (.iconst 0, 1) := by decide +kernel
theorem dX7_breaks_2 : decode cX7_breaks 2 = .ok (.putfield 121, 3) := by decide +kernel
theorem dX7_breaks_5 : decode cX7_breaks 5 = .ok (.aload_n 0, 1) := by decide +kernel
theorem dX7_breaks_6 : decode cX7_breaks 6 = .ok (.iload_n 1, 1) := by decide +kernel
theorem dX7_breaks_7 : decode cX7_breaks 7 = .ok (.invokevirtual 179, 3) := by decide +kernel
theorem dX7_breaks_10 : decode cX7_breaks 10 = .ok (.ifCond .eq 23, 3) := by decide +kernel
theorem dX7_breaks_13 : decode cX7_breaks 13 = .ok (.aload_n 0, 1) := by decide +kernel
theorem dX7_breaks_14 : decode cX7_breaks 14 = .ok (.getfield 69, 3) := by decide +kernel
theorem dX7_breaks_17 : decode cX7_breaks 17 = .ok (.iload_n 1, 1) := by decide +kernel
theorem dX7_breaks_18 : decode cX7_breaks 18 = .ok (.iaload, 1) := by decide +kernel
theorem dX7_breaks_19 : decode cX7_breaks 19 = .ok (.iconst 1, 1) := by decide +kernel
theorem dX7_breaks_20 : decode cX7_breaks 20 = .ok (.if_icmp .eq 13, 3) := by decide +kernel
theorem dX7_breaks_23 : decode cX7_breaks 23 = .ok (.aload_n 0, 1) := by decide +kernel
theorem dX7_breaks_24 : decode cX7_breaks 24 = .ok (.getfield 69, 3) := by decide +kernel
theorem dX7_breaks_27 : decode cX7_breaks 27 = .ok (.iload_n 1, 1) := by decide +kernel
theorem dX7_breaks_28 : decode cX7_breaks 28 = .ok (.iaload, 1) := by decide +kernel
theorem dX7_breaks_29 : decode cX7_breaks 29 = .ok (.iconst 4, 1) := by decide +kernel
theorem dX7_breaks_30 : decode cX7_breaks 30 = .ok (.if_icmp .ne 5, 3) := by decide +kernel
theorem dX7_breaks_33 : decode cX7_breaks 33 = .ok (.iconst 0, 1) := by decide +kernel
theorem dX7_breaks_34 : decode cX7_breaks 34 = .ok (.ireturn, 1) := by decide +kernel
theorem dX7_breaks_35 : decode cX7_breaks 35 = .ok (.iconst 0, 1) := by decide +kernel
theorem dX7_breaks_36 : decode cX7_breaks 36 = .ok (.istore_n 2, 1) := by decide +kernel
theorem dX7_breaks_37 : decode cX7_breaks 37 = .ok (.iload_n 2, 1) := by decide +kernel
theorem dX7_breaks_38 : decode cX7_breaks 38 = .ok (.aload_n 0, 1) := by decide +kernel
theorem dX7_breaks_39 : decode cX7_breaks 39 = .ok (.getfield 78, 3) := by decide +kernel
theorem dX7_breaks_42 : decode cX7_breaks 42 = .ok (.iload_n 1, 1) := by decide +kernel
theorem dX7_breaks_43 : decode cX7_breaks 43 = .ok (.iaload, 1) := by decide +kernel
theorem dX7_breaks_44 : decode cX7_breaks 44 = .ok (.if_icmp .ge 26, 3) := by decide +kernel
theorem dX7_breaks_47 : decode cX7_breaks 47 = .ok (.aload_n 0, 1) := by decide +kernel
theorem dX7_breaks_48 : decode cX7_breaks 48 = .ok (.getfield 48, 3) := by decide +kernel
theorem dX7_breaks_51 : decode cX7_breaks 51 = .ok (.aload_n 0, 1) := by decide +kernel
theorem dX7_breaks_52 : decode cX7_breaks 52 = .ok (.getfield 75, 3) := by decide +kernel
theorem dX7_breaks_55 : decode cX7_breaks 55 = .ok (.bipush 8, 2) := by decide +kernel
theorem dX7_breaks_57 : decode cX7_breaks 57 = .ok (.iload_n 1, 1) := by decide +kernel
theorem dX7_breaks_58 : decode cX7_breaks 58 = .ok (.imul, 1) := by decide +kernel
theorem dX7_breaks_59 : decode cX7_breaks 59 = .ok (.iload_n 2, 1) := by decide +kernel
theorem dX7_breaks_60 : decode cX7_breaks 60 = .ok (.iadd, 1) := by decide +kernel
theorem dX7_breaks_61 : decode cX7_breaks 61 = .ok (.iaload, 1) := by decide +kernel
theorem dX7_breaks_62 : decode cX7_breaks 62 = .ok (.iconst 0, 1) := by decide +kernel
theorem dX7_breaks_63 : decode cX7_breaks 63 = .ok (.iastore, 1) := by decide +kernel
theorem dX7_breaks_64 : decode cX7_breaks 64 = .ok (.iinc 2 1, 3) := by decide +kernel
theorem dX7_breaks_67 : decode cX7_breaks 67 = .ok (.goto (-30), 3) := by decide +kernel
theorem dX7_breaks_70 : decode cX7_breaks 70 = .ok (.aload_n 0, 1) := by decide +kernel
theorem dX7_breaks_71 : decode cX7_breaks 71 = .ok (.getfield 78, 3) := by decide +kernel
theorem dX7_breaks_74 : decode cX7_breaks 74 = .ok (.iload_n 1, 1) := by decide +kernel
theorem dX7_breaks_75 : decode cX7_breaks 75 = .ok (.iconst 0, 1) := by decide +kernel
theorem dX7_breaks_76 : decode cX7_breaks 76 = .ok (.iastore, 1) := by decide +kernel
theorem dX7_breaks_77 : decode cX7_breaks 77 = .ok (.aload_n 0, 1) := by decide +kernel
theorem dX7_breaks_78 : decode cX7_breaks 78 = .ok (.getfield 81, 3) := by decide +kernel
theorem dX7_breaks_81 : decode cX7_breaks 81 = .ok (.iload_n 1, 1) := by decide +kernel
theorem dX7_breaks_82 : decode cX7_breaks 82 = .ok (.iconst 0, 1) := by decide +kernel
theorem dX7_breaks_83 : decode cX7_breaks 83 = .ok (.iastore, 1) := by decide +kernel
theorem dX7_breaks_84 : decode cX7_breaks 84 = .ok (.aload_n 0, 1) := by decide +kernel
theorem dX7_breaks_85 : decode cX7_breaks 85 = .ok (.getfield 69, 3) := by decide +kernel
theorem dX7_breaks_88 : decode cX7_breaks 88 = .ok (.iload_n 1, 1) := by decide +kernel
theorem dX7_breaks_89 : decode cX7_breaks 89 = .ok (.iconst 4, 1) := by decide +kernel
theorem dX7_breaks_90 : decode cX7_breaks 90 = .ok (.iastore, 1) := by decide +kernel
theorem dX7_breaks_91 : decode cX7_breaks 91 = .ok (.iconst 1, 1) := by decide +kernel
theorem dX7_breaks_92 : decode cX7_breaks 92 = .ok (.ireturn, 1) := by decide +kernel
theorem dX7_mends_0 : decode cX7_mends 0 = .ok (.aload_n 0, 1) := by decide +kernel
theorem dX7_mends_1 : decode cX7_mends 1 = .ok (.iconst 0, 1) := by decide +kernel
theorem dX7_mends_2 : decode cX7_mends 2 = .ok (.putfield 121, 3) := by decide +kernel
theorem dX7_mends_5 : decode cX7_mends 5 = .ok (.aload_n 0, 1) := by decide +kernel
theorem dX7_mends_6 : decode cX7_mends 6 = .ok (.iload_n 1, 1) := by decide +kernel
theorem dX7_mends_7 : decode cX7_mends 7 = .ok (.invokevirtual 179, 3) := by decide +kernel
theorem dX7_mends_10 : decode cX7_mends 10 = .ok (.ifCond .eq 13, 3) := by decide +kernel
theorem dX7_mends_13 : decode cX7_mends 13 = .ok (.aload_n 0, 1) := by decide +kernel
theorem dX7_mends_14 : decode cX7_mends 14 = .ok (.getfield 69, 3) := by decide +kernel
theorem dX7_mends_17 : decode cX7_mends 17 = .ok (.iload_n 1, 1) := by decide +kernel
theorem dX7_mends_18 : decode cX7_mends 18 = .ok (.iaload, 1) := by decide +kernel
theorem dX7_mends_19 : decode cX7_mends 19 = .ok (.iconst 4, 1) := by decide +kernel
theorem dX7_mends_20 : decode cX7_mends 20 = .ok (.if_icmp .eq 5, 3) := by decide +kernel
theorem dX7_mends_23 : decode cX7_mends 23 = .ok (.iconst 0, 1) := by decide +kernel
theorem dX7_mends_24 : decode cX7_mends 24 = .ok (.ireturn, 1) := by decide +kernel
theorem dX7_mends_25 : decode cX7_mends 25 = .ok (.aload_n 0, 1) := by decide +kernel
theorem dX7_mends_26 : decode cX7_mends 26 = .ok (.getfield 69, 3) := by decide +kernel
theorem dX7_mends_29 : decode cX7_mends 29 = .ok (.iload_n 1, 1) := by decide +kernel
theorem dX7_mends_30 : decode cX7_mends 30 = .ok (.aload_n 0, 1) := by decide +kernel
theorem dX7_mends_31 : decode cX7_mends 31 = .ok (.getfield 72, 3) := by decide +kernel
theorem dX7_mends_34 : decode cX7_mends 34 = .ok (.iload_n 1, 1) := by decide +kernel
theorem dX7_mends_35 : decode cX7_mends 35 = .ok (.iaload, 1) := by decide +kernel
theorem dX7_mends_36 : decode cX7_mends 36 = .ok (.iconst (-1), 1) := by decide +kernel
theorem dX7_mends_37 : decode cX7_mends 37 = .ok (.if_icmp .ne 7, 3) := by decide +kernel
theorem dX7_mends_40 : decode cX7_mends 40 = .ok (.iconst 0, 1) := by decide +kernel
theorem dX7_mends_41 : decode cX7_mends 41 = .ok (.goto 4, 3) := by decide +kernel
theorem dX7_mends_44 : decode cX7_mends 44 = .ok (.iconst 3, 1) := by decide +kernel
theorem dX7_mends_45 : decode cX7_mends 45 = .ok (.iastore, 1) := by decide +kernel
theorem dX7_mends_46 : decode cX7_mends 46 = .ok (.iconst 1, 1) := by decide +kernel
theorem dX7_mends_47 : decode cX7_mends 47 = .ok (.ireturn, 1) := by decide +kernel
theorem dX7_begins_0 : decode cX7_begins 0 = .ok (.aload_n 0, 1) := by decide +kernel
theorem dX7_begins_1 : decode cX7_begins 1 = .ok (.getfield 69, 3) := by decide +kernel
theorem dX7_begins_4 : decode cX7_begins 4 = .ok (.iload_n 1, 1) := by decide +kernel
theorem dX7_begins_5 : decode cX7_begins 5 = .ok (.iconst 2, 1) := by decide +kernel
theorem dX7_begins_6 : decode cX7_begins 6 = .ok (.iastore, 1) := by decide +kernel
theorem dX7_begins_7 : decode cX7_begins 7 = .ok (.aload_n 0, 1) := by decide +kernel
theorem dX7_begins_8 : decode cX7_begins 8 = .ok (.getfield 72, 3) := by decide +kernel
theorem dX7_begins_11 : decode cX7_begins 11 = .ok (.iload_n 1, 1) := by decide +kernel
theorem dX7_begins_12 : decode cX7_begins 12 = .ok (.iload_n 2, 1) := by decide +kernel
theorem dX7_begins_13 : decode cX7_begins 13 = .ok (.iastore, 1) := by decide +kernel
theorem dX7_begins_14 : decode cX7_begins 14 = .ok (.aload_n 0, 1) := by decide +kernel
theorem dX7_begins_15 : decode cX7_begins 15 = .ok (.getfield 22, 3) := by decide +kernel
theorem dX7_begins_18 : decode cX7_begins 18 = .ok (.iload_n 2, 1) := by decide +kernel
theorem dX7_begins_19 : decode cX7_begins 19 = .ok (.iconst 2, 1) := by decide +kernel
theorem dX7_begins_20 : decode cX7_begins 20 = .ok (.iastore, 1) := by decide +kernel
theorem dX7_begins_21 : decode cX7_begins 21 = .ok (.aload_n 0, 1) := by decide +kernel
theorem dX7_begins_22 : decode cX7_begins 22 = .ok (.iload_n 2, 1) := by decide +kernel
theorem dX7_begins_23 : decode cX7_begins 23 = .ok (.iconst 0, 1) := by decide +kernel
theorem dX7_begins_24 : decode cX7_begins 24 = .ok (.invokevirtual 172, 3) := by decide +kernel
theorem dX7_begins_27 : decode cX7_begins 27 = .ok (.aload_n 0, 1) := by decide +kernel
theorem dX7_begins_28 : decode cX7_begins 28 = .ok (.getfield 78, 3) := by decide +kernel
theorem dX7_begins_31 : decode cX7_begins 31 = .ok (.iload_n 1, 1) := by decide +kernel
theorem dX7_begins_32 : decode cX7_begins 32 = .ok (.aload_n 0, 1) := by decide +kernel
theorem dX7_begins_33 : decode cX7_begins 33 = .ok (.getfield 154, 3) := by decide +kernel
theorem dX7_begins_36 : decode cX7_begins 36 = .ok (.iastore, 1) := by decide +kernel
theorem dX7_begins_37 : decode cX7_begins 37 = .ok (.aload_n 0, 1) := by decide +kernel
theorem dX7_begins_38 : decode cX7_begins 38 = .ok (.getfield 81, 3) := by decide +kernel
theorem dX7_begins_41 : decode cX7_begins 41 = .ok (.iload_n 1, 1) := by decide +kernel
theorem dX7_begins_42 : decode cX7_begins 42 = .ok (.iconst 0, 1) := by decide +kernel
theorem dX7_begins_43 : decode cX7_begins 43 = .ok (.iastore, 1) := by decide +kernel
theorem dX7_begins_44 : decode cX7_begins 44 = .ok (.aload_n 0, 1) := by decide +kernel
theorem dX7_begins_45 : decode cX7_begins 45 = .ok (.getfield 84, 3) := by decide +kernel
theorem dX7_begins_48 : decode cX7_begins 48 = .ok (.iload_n 1, 1) := by decide +kernel
theorem dX7_begins_49 : decode cX7_begins 49 = .ok (.iconst 0, 1) := by decide +kernel
theorem dX7_begins_50 : decode cX7_begins 50 = .ok (.iastore, 1) := by decide +kernel
theorem dX7_begins_51 : decode cX7_begins 51 = .ok (.iconst 0, 1) := by decide +kernel
theorem dX7_begins_52 : decode cX7_begins 52 = .ok (.istore_n 3, 1) := by decide +kernel
theorem dX7_begins_53 : decode cX7_begins 53 = .ok (.iload_n 3, 1) := by decide +kernel
theorem dX7_begins_54 : decode cX7_begins 54 = .ok (.aload_n 0, 1) := by decide +kernel
theorem dX7_begins_55 : decode cX7_begins 55 = .ok (.getfield 154, 3) := by decide +kernel
theorem dX7_begins_58 : decode cX7_begins 58 = .ok (.if_icmp .ge 38, 3) := by decide +kernel
theorem dX7_begins_61 : decode cX7_begins 61 = .ok (.aload_n 0, 1) := by decide +kernel
theorem dX7_begins_62 : decode cX7_begins 62 = .ok (.getfield 75, 3) := by decide +kernel
theorem dX7_begins_65 : decode cX7_begins 65 = .ok (.bipush 8, 2) := by decide +kernel
theorem dX7_begins_67 : decode cX7_begins 67 = .ok (.iload_n 1, 1) := by decide +kernel
theorem dX7_begins_68 : decode cX7_begins 68 = .ok (.imul, 1) := by decide +kernel
theorem dX7_begins_69 : decode cX7_begins 69 = .ok (.iload_n 3, 1) := by decide +kernel
theorem dX7_begins_70 : decode cX7_begins 70 = .ok (.iadd, 1) := by decide +kernel
theorem dX7_begins_71 : decode cX7_begins 71 = .ok (.aload_n 0, 1) := by decide +kernel
theorem dX7_begins_72 : decode cX7_begins 72 = .ok (.getfield 63, 3) := by decide +kernel
theorem dX7_begins_75 : decode cX7_begins 75 = .ok (.iload_n 3, 1) := by decide +kernel
theorem dX7_begins_76 : decode cX7_begins 76 = .ok (.iaload, 1) := by decide +kernel
theorem dX7_begins_77 : decode cX7_begins 77 = .ok (.iastore, 1) := by decide +kernel
theorem dX7_begins_78 : decode cX7_begins 78 = .ok (.aload_n 0, 1) := by decide +kernel
theorem dX7_begins_79 : decode cX7_begins 79 = .ok (.getfield 48, 3) := by decide +kernel
theorem dX7_begins_82 : decode cX7_begins 82 = .ok (.aload_n 0, 1) := by decide +kernel
theorem dX7_begins_83 : decode cX7_begins 83 = .ok (.getfield 63, 3) := by decide +kernel
theorem dX7_begins_86 : decode cX7_begins 86 = .ok (.iload_n 3, 1) := by decide +kernel
theorem dX7_begins_87 : decode cX7_begins 87 = .ok (.iaload, 1) := by decide +kernel
theorem dX7_begins_88 : decode cX7_begins 88 = .ok (.iconst 1, 1) := by decide +kernel
theorem dX7_begins_89 : decode cX7_begins 89 = .ok (.iastore, 1) := by decide +kernel
theorem dX7_begins_90 : decode cX7_begins 90 = .ok (.iinc 3 1, 3) := by decide +kernel
theorem dX7_begins_93 : decode cX7_begins 93 = .ok (.goto (-40), 3) := by decide +kernel
theorem dX7_begins_96 : decode cX7_begins 96 = .ok (.return_, 1) := by decide +kernel
theorem dX7_results_0 : decode cX7_results 0 = .ok (.aload_n 0, 1) := by decide +kernel
theorem dX7_results_1 : decode cX7_results 1 = .ok (.getfield 36, 3) := by decide +kernel
theorem dX7_results_4 : decode cX7_results 4 = .ok (.iload_n 1, 1) := by decide +kernel
theorem dX7_results_5 : decode cX7_results 5 = .ok (.iaload, 1) := by decide +kernel
theorem dX7_results_6 : decode cX7_results 6 = .ok (.istore_n 2, 1) := by decide +kernel
theorem dX7_results_7 : decode cX7_results 7 = .ok (.bipush 60, 2) := by decide +kernel
theorem dX7_results_9 : decode cX7_results 9 = .ok (.iload_n 2, 1) := by decide +kernel
theorem dX7_results_10 : decode cX7_results 10 = .ok (.imul, 1) := by decide +kernel
theorem dX7_results_11 : decode cX7_results 11 = .ok (.aload_n 0, 1) := by decide +kernel
theorem dX7_results_12 : decode cX7_results 12 = .ok (.iload_n 1, 1) := by decide +kernel
theorem dX7_results_13 : decode cX7_results 13 = .ok (.invokevirtual 144, 3) := by decide +kernel
theorem dX7_results_16 : decode cX7_results 16 = .ok (.iadd, 1) := by decide +kernel
theorem dX7_results_17 : decode cX7_results 17 = .ok (.istore_n 3, 1) := by decide +kernel
theorem dX7_results_18 : decode cX7_results 18 = .ok (.aload_n 0, 1) := by decide +kernel
theorem dX7_results_19 : decode cX7_results 19 = .ok (.getfield 33, 3) := by decide +kernel
theorem dX7_results_22 : decode cX7_results 22 = .ok (.iload_n 1, 1) := by decide +kernel
theorem dX7_results_23 : decode cX7_results 23 = .ok (.iaload, 1) := by decide +kernel
theorem dX7_results_24 : decode cX7_results 24 = .ok (.iconst 2, 1) := by decide +kernel
theorem dX7_results_25 : decode cX7_results 25 = .ok (.if_icmp .ne 36, 3) := by decide +kernel
theorem dX7_results_28 : decode cX7_results 28 = .ok (.aload_n 0, 1) := by decide +kernel
theorem dX7_results_29 : decode cX7_results 29 = .ok (.getfield 25, 3) := by decide +kernel
theorem dX7_results_32 : decode cX7_results 32 = .ok (.iload_n 3, 1) := by decide +kernel
theorem dX7_results_33 : decode cX7_results 33 = .ok (.laload, 1) := by decide +kernel
theorem dX7_results_34 : decode cX7_results 34 = .ok (.lstore 4, 2) := by decide +kernel
theorem dX7_results_36 : decode cX7_results 36 = .ok (.aload_n 0, 1) := by decide +kernel
theorem dX7_results_37 : decode cX7_results 37 = .ok (.getfield 25, 3) := by decide +kernel
theorem dX7_results_40 : decode cX7_results 40 = .ok (.iload_n 3, 1) := by decide +kernel
theorem dX7_results_41 : decode cX7_results 41 = .ok (.aload_n 0, 1) := by decide +kernel
theorem dX7_results_42 : decode cX7_results 42 = .ok (.getfield 13, 3) := by decide +kernel
theorem dX7_results_45 : decode cX7_results 45 = .ok (.iload_n 2, 1) := by decide +kernel
theorem dX7_results_46 : decode cX7_results 46 = .ok (.iaload, 1) := by decide +kernel
theorem dX7_results_47 : decode cX7_results 47 = .ok (.aload_n 0, 1) := by decide +kernel
theorem dX7_results_48 : decode cX7_results 48 = .ok (.getfield 42, 3) := by decide +kernel
theorem dX7_results_51 : decode cX7_results 51 = .ok (.iload_n 1, 1) := by decide +kernel
theorem dX7_results_52 : decode cX7_results 52 = .ok (.iaload, 1) := by decide +kernel
theorem dX7_results_53 : decode cX7_results 53 = .ok (.i2l, 1) := by decide +kernel
theorem dX7_results_54 : decode cX7_results 54 = .ok (.invokestatic 182, 3) := by decide +kernel
theorem dX7_results_57 : decode cX7_results 57 = .ok (.lastore, 1) := by decide +kernel
theorem dX7_results_58 : decode cX7_results 58 = .ok (.lload 4, 2) := by decide +kernel
theorem dX7_results_60 : decode cX7_results 60 = .ok (.lreturn, 1) := by decide +kernel
theorem dX7_results_61 : decode cX7_results 61 = .ok (.lconst 0, 1) := by decide +kernel
theorem dX7_results_62 : decode cX7_results 62 = .ok (.lstore 4, 2) := by decide +kernel
theorem dX7_results_64 : decode cX7_results 64 = .ok (.iload_n 3, 1) := by decide +kernel
theorem dX7_results_65 : decode cX7_results 65 = .ok (.istore 6, 2) := by decide +kernel
theorem dX7_results_67 : decode cX7_results 67 = .ok (.iload 6, 2) := by decide +kernel
theorem dX7_results_69 : decode cX7_results 69 = .ok (.bipush 60, 2) := by decide +kernel
theorem dX7_results_71 : decode cX7_results 71 = .ok (.iload_n 2, 1) := by decide +kernel
theorem dX7_results_72 : decode cX7_results 72 = .ok (.imul, 1) := by decide +kernel
theorem dX7_results_73 : decode cX7_results 73 = .ok (.aload_n 0, 1) := by decide +kernel
theorem dX7_results_74 : decode cX7_results 74 = .ok (.iload_n 1, 1) := by decide +kernel
theorem dX7_results_75 : decode cX7_results 75 = .ok (.invokevirtual 148, 3) := by decide +kernel
theorem dX7_results_78 : decode cX7_results 78 = .ok (.iadd, 1) := by decide +kernel
theorem dX7_results_79 : decode cX7_results 79 = .ok (.if_icmp .gt 21, 3) := by decide +kernel
theorem dX7_results_82 : decode cX7_results 82 = .ok (.lload 4, 2) := by decide +kernel
theorem dX7_results_84 : decode cX7_results 84 = .ok (.aload_n 0, 1) := by decide +kernel
theorem dX7_results_85 : decode cX7_results 85 = .ok (.getfield 25, 3) := by decide +kernel
theorem dX7_results_88 : decode cX7_results 88 = .ok (.iload 6, 2) := by decide +kernel
theorem dX7_results_90 : decode cX7_results 90 = .ok (.laload, 1) := by decide +kernel
theorem dX7_results_91 : decode cX7_results 91 = .ok (.ladd, 1) := by decide +kernel
theorem dX7_results_92 : decode cX7_results 92 = .ok (.lstore 4, 2) := by decide +kernel
theorem dX7_results_94 : decode cX7_results 94 = .ok (.iinc 6 1, 3) := by decide +kernel
theorem dX7_results_97 : decode cX7_results 97 = .ok (.goto (-30), 3) := by decide +kernel
theorem dX7_results_100 : decode cX7_results 100 = .ok (.lload 4, 2) := by decide +kernel
theorem dX7_results_102 : decode cX7_results 102 = .ok (.lreturn, 1) := by decide +kernel
theorem dX7_works_0 : decode cX7_works 0 = .ok (.aload_n 0, 1) := by decide +kernel
theorem dX7_works_1 : decode cX7_works 1 = .ok (.getfield 78, 3) := by decide +kernel
theorem dX7_works_4 : decode cX7_works 4 = .ok (.iload_n 1, 1) := by decide +kernel
theorem dX7_works_5 : decode cX7_works 5 = .ok (.iaload, 1) := by decide +kernel
theorem dX7_works_6 : decode cX7_works 6 = .ok (.ifCond .ne 12, 3) := by decide +kernel
theorem dX7_works_9 : decode cX7_works 9 = .ok (.aload_n 0, 1) := by decide +kernel
theorem dX7_works_10 : decode cX7_works 10 = .ok (.getfield 69, 3) := by decide +kernel
theorem dX7_works_13 : decode cX7_works 13 = .ok (.iload_n 1, 1) := by decide +kernel
theorem dX7_works_14 : decode cX7_works 14 = .ok (.iconst 3, 1) := by decide +kernel
theorem dX7_works_15 : decode cX7_works 15 = .ok (.iastore, 1) := by decide +kernel
theorem dX7_works_16 : decode cX7_works 16 = .ok (.iconst 0, 1) := by decide +kernel
theorem dX7_works_17 : decode cX7_works 17 = .ok (.ireturn, 1) := by decide +kernel
theorem dX7_works_18 : decode cX7_works 18 = .ok (.aload_n 0, 1) := by decide +kernel
theorem dX7_works_19 : decode cX7_works 19 = .ok (.getfield 75, 3) := by decide +kernel
theorem dX7_works_22 : decode cX7_works 22 = .ok (.bipush 8, 2) := by decide +kernel
theorem dX7_works_24 : decode cX7_works 24 = .ok (.iload_n 1, 1) := by decide +kernel
theorem dX7_works_25 : decode cX7_works 25 = .ok (.imul, 1) := by decide +kernel
theorem dX7_works_26 : decode cX7_works 26 = .ok (.iaload, 1) := by decide +kernel
theorem dX7_works_27 : decode cX7_works 27 = .ok (.istore_n 2, 1) := by decide +kernel
theorem dX7_works_28 : decode cX7_works 28 = .ok (.aload_n 0, 1) := by decide +kernel
theorem dX7_works_29 : decode cX7_works 29 = .ok (.getfield 72, 3) := by decide +kernel
theorem dX7_works_32 : decode cX7_works 32 = .ok (.iload_n 1, 1) := by decide +kernel
theorem dX7_works_33 : decode cX7_works 33 = .ok (.iaload, 1) := by decide +kernel
theorem dX7_works_34 : decode cX7_works 34 = .ok (.istore_n 3, 1) := by decide +kernel
theorem dX7_works_35 : decode cX7_works 35 = .ok (.aload_n 0, 1) := by decide +kernel
theorem dX7_works_36 : decode cX7_works 36 = .ok (.getfield 81, 3) := by decide +kernel
theorem dX7_works_39 : decode cX7_works 39 = .ok (.iload_n 1, 1) := by decide +kernel
theorem dX7_works_40 : decode cX7_works 40 = .ok (.dup2, 1) := by decide +kernel
theorem dX7_works_41 : decode cX7_works 41 = .ok (.iaload, 1) := by decide +kernel
theorem dX7_works_42 : decode cX7_works 42 = .ok (.iconst 1, 1) := by decide +kernel
theorem dX7_works_43 : decode cX7_works 43 = .ok (.iadd, 1) := by decide +kernel
theorem dX7_works_44 : decode cX7_works 44 = .ok (.iastore, 1) := by decide +kernel
theorem dX7_works_45 : decode cX7_works 45 = .ok (.aload_n 0, 1) := by decide +kernel
theorem dX7_works_46 : decode cX7_works 46 = .ok (.getfield 81, 3) := by decide +kernel
theorem dX7_works_49 : decode cX7_works 49 = .ok (.iload_n 1, 1) := by decide +kernel
theorem dX7_works_50 : decode cX7_works 50 = .ok (.iaload, 1) := by decide +kernel
theorem dX7_works_51 : decode cX7_works 51 = .ok (.aload_n 0, 1) := by decide +kernel
theorem dX7_works_52 : decode cX7_works 52 = .ok (.iload_n 2, 1) := by decide +kernel
theorem dX7_works_53 : decode cX7_works 53 = .ok (.aload_n 0, 1) := by decide +kernel
theorem dX7_works_54 : decode cX7_works 54 = .ok (.getfield 19, 3) := by decide +kernel
theorem dX7_works_57 : decode cX7_works 57 = .ok (.iload_n 3, 1) := by decide +kernel
theorem dX7_works_58 : decode cX7_works 58 = .ok (.iaload, 1) := by decide +kernel
theorem dX7_works_59 : decode cX7_works 59 = .ok (.aload_n 0, 1) := by decide +kernel
theorem dX7_works_60 : decode cX7_works 60 = .ok (.getfield 84, 3) := by decide +kernel
theorem dX7_works_63 : decode cX7_works 63 = .ok (.iload_n 1, 1) := by decide +kernel
theorem dX7_works_64 : decode cX7_works 64 = .ok (.iaload, 1) := by decide +kernel
theorem dX7_works_65 : decode cX7_works 65 = .ok (.invokevirtual 160, 3) := by decide +kernel
theorem dX7_works_68 : decode cX7_works 68 = .ok (.if_icmp .ge 5, 3) := by decide +kernel
theorem dX7_works_71 : decode cX7_works 71 = .ok (.iconst 0, 1) := by decide +kernel
theorem dX7_works_72 : decode cX7_works 72 = .ok (.ireturn, 1) := by decide +kernel
theorem dX7_works_73 : decode cX7_works 73 = .ok (.aload_n 0, 1) := by decide +kernel
theorem dX7_works_74 : decode cX7_works 74 = .ok (.getfield 84, 3) := by decide +kernel
theorem dX7_works_77 : decode cX7_works 77 = .ok (.iload_n 1, 1) := by decide +kernel
theorem dX7_works_78 : decode cX7_works 78 = .ok (.aload_n 0, 1) := by decide +kernel
theorem dX7_works_79 : decode cX7_works 79 = .ok (.getfield 151, 3) := by decide +kernel
theorem dX7_works_82 : decode cX7_works 82 = .ok (.iastore, 1) := by decide +kernel
theorem dX7_works_83 : decode cX7_works 83 = .ok (.aload_n 0, 1) := by decide +kernel
theorem dX7_works_84 : decode cX7_works 84 = .ok (.getfield 19, 3) := by decide +kernel
theorem dX7_works_87 : decode cX7_works 87 = .ok (.iload_n 3, 1) := by decide +kernel
theorem dX7_works_88 : decode cX7_works 88 = .ok (.aload_n 0, 1) := by decide +kernel
theorem dX7_works_89 : decode cX7_works 89 = .ok (.iload_n 2, 1) := by decide +kernel
theorem dX7_works_90 : decode cX7_works 90 = .ok (.invokevirtual 148, 3) := by decide +kernel
theorem dX7_works_93 : decode cX7_works 93 = .ok (.iastore, 1) := by decide +kernel
theorem dX7_works_94 : decode cX7_works 94 = .ok (.aload_n 0, 1) := by decide +kernel
theorem dX7_works_95 : decode cX7_works 95 = .ok (.getfield 13, 3) := by decide +kernel
theorem dX7_works_98 : decode cX7_works 98 = .ok (.iload_n 3, 1) := by decide +kernel
theorem dX7_works_99 : decode cX7_works 99 = .ok (.iaload, 1) := by decide +kernel
theorem dX7_works_100 : decode cX7_works 100 = .ok (.iconst 4, 1) := by decide +kernel
theorem dX7_works_101 : decode cX7_works 101 = .ok (.if_icmp .ne 7, 3) := by decide +kernel
theorem dX7_works_104 : decode cX7_works 104 = .ok (.iconst 1, 1) := by decide +kernel
theorem dX7_works_105 : decode cX7_works 105 = .ok (.goto 4, 3) := by decide +kernel
theorem dX7_works_108 : decode cX7_works 108 = .ok (.iconst 0, 1) := by decide +kernel
theorem dX7_works_109 : decode cX7_works 109 = .ok (.istore 4, 2) := by decide +kernel
theorem dX7_works_111 : decode cX7_works 111 = .ok (.aload_n 0, 1) := by decide +kernel
theorem dX7_works_112 : decode cX7_works 112 = .ok (.getfield 48, 3) := by decide +kernel
theorem dX7_works_115 : decode cX7_works 115 = .ok (.iload_n 2, 1) := by decide +kernel
theorem dX7_works_116 : decode cX7_works 116 = .ok (.iload 4, 2) := by decide +kernel
theorem dX7_works_118 : decode cX7_works 118 = .ok (.ifCond .eq 7, 3) := by decide +kernel
theorem dX7_works_121 : decode cX7_works 121 = .ok (.iconst 3, 1) := by decide +kernel
theorem dX7_works_122 : decode cX7_works 122 = .ok (.goto 4, 3) := by decide +kernel
theorem dX7_works_125 : decode cX7_works 125 = .ok (.iconst 2, 1) := by decide +kernel
theorem dX7_works_126 : decode cX7_works 126 = .ok (.iastore, 1) := by decide +kernel
theorem dX7_works_127 : decode cX7_works 127 = .ok (.aload_n 0, 1) := by decide +kernel
theorem dX7_works_128 : decode cX7_works 128 = .ok (.getfield 51, 3) := by decide +kernel
theorem dX7_works_131 : decode cX7_works 131 = .ok (.iload_n 2, 1) := by decide +kernel
theorem dX7_works_132 : decode cX7_works 132 = .ok (.aload_n 0, 1) := by decide +kernel
theorem dX7_works_133 : decode cX7_works 133 = .ok (.getfield 141, 3) := by decide +kernel
theorem dX7_works_136 : decode cX7_works 136 = .ok (.iastore, 1) := by decide +kernel
theorem dX7_works_137 : decode cX7_works 137 = .ok (.aload_n 0, 1) := by decide +kernel
theorem dX7_works_138 : decode cX7_works 138 = .ok (.getfield 54, 3) := by decide +kernel
theorem dX7_works_141 : decode cX7_works 141 = .ok (.iload_n 2, 1) := by decide +kernel
theorem dX7_works_142 : decode cX7_works 142 = .ok (.iload 4, 2) := by decide +kernel
theorem dX7_works_144 : decode cX7_works 144 = .ok (.ifCond .eq 7, 3) := by decide +kernel
theorem dX7_works_147 : decode cX7_works 147 = .ok (.lconst 0, 1) := by decide +kernel
theorem dX7_works_148 : decode cX7_works 148 = .ok (.goto 8, 3) := by decide +kernel
theorem dX7_works_151 : decode cX7_works 151 = .ok (.aload_n 0, 1) := by decide +kernel
theorem dX7_works_152 : decode cX7_works 152 = .ok (.iload_n 2, 1) := by decide +kernel
theorem dX7_works_153 : decode cX7_works 153 = .ok (.invokevirtual 186, 3) := by decide +kernel
theorem dX7_works_156 : decode cX7_works 156 = .ok (.lastore, 1) := by decide +kernel
theorem dX7_works_157 : decode cX7_works 157 = .ok (.aload_n 0, 1) := by decide +kernel
theorem dX7_works_158 : decode cX7_works 158 = .ok (.getfield 81, 3) := by decide +kernel
theorem dX7_works_161 : decode cX7_works 161 = .ok (.iload_n 1, 1) := by decide +kernel
theorem dX7_works_162 : decode cX7_works 162 = .ok (.iconst 0, 1) := by decide +kernel
theorem dX7_works_163 : decode cX7_works 163 = .ok (.iastore, 1) := by decide +kernel
theorem dX7_works_164 : decode cX7_works 164 = .ok (.aload_n 0, 1) := by decide +kernel
theorem dX7_works_165 : decode cX7_works 165 = .ok (.getfield 78, 3) := by decide +kernel
theorem dX7_works_168 : decode cX7_works 168 = .ok (.iload_n 1, 1) := by decide +kernel
theorem dX7_works_169 : decode cX7_works 169 = .ok (.dup2, 1) := by decide +kernel
theorem dX7_works_170 : decode cX7_works 170 = .ok (.iaload, 1) := by decide +kernel
theorem dX7_works_171 : decode cX7_works 171 = .ok (.iconst 1, 1) := by decide +kernel
theorem dX7_works_172 : decode cX7_works 172 = .ok (.isub, 1) := by decide +kernel
theorem dX7_works_173 : decode cX7_works 173 = .ok (.iastore, 1) := by decide +kernel
theorem dX7_works_174 : decode cX7_works 174 = .ok (.iconst 0, 1) := by decide +kernel
theorem dX7_works_175 : decode cX7_works 175 = .ok (.istore 5, 2) := by decide +kernel
theorem dX7_works_177 : decode cX7_works 177 = .ok (.iload 5, 2) := by decide +kernel
theorem dX7_works_179 : decode cX7_works 179 = .ok (.aload_n 0, 1) := by decide +kernel
theorem dX7_works_180 : decode cX7_works 180 = .ok (.getfield 78, 3) := by decide +kernel
theorem dX7_works_183 : decode cX7_works 183 = .ok (.iload_n 1, 1) := by decide +kernel
theorem dX7_works_184 : decode cX7_works 184 = .ok (.iaload, 1) := by decide +kernel
theorem dX7_works_185 : decode cX7_works 185 = .ok (.if_icmp .ge 35, 3) := by decide +kernel
theorem dX7_works_188 : decode cX7_works 188 = .ok (.aload_n 0, 1) := by decide +kernel
theorem dX7_works_189 : decode cX7_works 189 = .ok (.getfield 75, 3) := by decide +kernel
theorem dX7_works_192 : decode cX7_works 192 = .ok (.bipush 8, 2) := by decide +kernel
theorem dX7_works_194 : decode cX7_works 194 = .ok (.iload_n 1, 1) := by decide +kernel
theorem dX7_works_195 : decode cX7_works 195 = .ok (.imul, 1) := by decide +kernel
theorem dX7_works_196 : decode cX7_works 196 = .ok (.iload 5, 2) := by decide +kernel
theorem dX7_works_198 : decode cX7_works 198 = .ok (.iadd, 1) := by decide +kernel
theorem dX7_works_199 : decode cX7_works 199 = .ok (.aload_n 0, 1) := by decide +kernel
theorem dX7_works_200 : decode cX7_works 200 = .ok (.getfield 75, 3) := by decide +kernel
theorem dX7_works_203 : decode cX7_works 203 = .ok (.bipush 8, 2) := by decide +kernel
theorem dX7_works_205 : decode cX7_works 205 = .ok (.iload_n 1, 1) := by decide +kernel
theorem dX7_works_206 : decode cX7_works 206 = .ok (.imul, 1) := by decide +kernel
theorem dX7_works_207 : decode cX7_works 207 = .ok (.iload 5, 2) := by decide +kernel
theorem dX7_works_209 : decode cX7_works 209 = .ok (.iadd, 1) := by decide +kernel
theorem dX7_works_210 : decode cX7_works 210 = .ok (.iconst 1, 1) := by decide +kernel
theorem dX7_works_211 : decode cX7_works 211 = .ok (.iadd, 1) := by decide +kernel
theorem dX7_works_212 : decode cX7_works 212 = .ok (.iaload, 1) := by decide +kernel
theorem dX7_works_213 : decode cX7_works 213 = .ok (.iastore, 1) := by decide +kernel
theorem dX7_works_214 : decode cX7_works 214 = .ok (.iinc 5 1, 3) := by decide +kernel
theorem dX7_works_217 : decode cX7_works 217 = .ok (.goto (-40), 3) := by decide +kernel
theorem dX7_works_220 : decode cX7_works 220 = .ok (.aload_n 0, 1) := by decide +kernel
theorem dX7_works_221 : decode cX7_works 221 = .ok (.getfield 78, 3) := by decide +kernel
theorem dX7_works_224 : decode cX7_works 224 = .ok (.iload_n 1, 1) := by decide +kernel
theorem dX7_works_225 : decode cX7_works 225 = .ok (.iaload, 1) := by decide +kernel
theorem dX7_works_226 : decode cX7_works 226 = .ok (.ifCond .ne 10, 3) := by decide +kernel
theorem dX7_works_229 : decode cX7_works 229 = .ok (.aload_n 0, 1) := by decide +kernel
theorem dX7_works_230 : decode cX7_works 230 = .ok (.getfield 69, 3) := by decide +kernel
theorem dX7_works_233 : decode cX7_works 233 = .ok (.iload_n 1, 1) := by decide +kernel
theorem dX7_works_234 : decode cX7_works 234 = .ok (.iconst 3, 1) := by decide +kernel
theorem dX7_works_235 : decode cX7_works 235 = .ok (.iastore, 1) := by decide +kernel
theorem dX7_works_236 : decode cX7_works 236 = .ok (.iconst 1, 1) := by decide +kernel
theorem dX7_works_237 : decode cX7_works 237 = .ok (.ireturn, 1) := by decide +kernel
theorem dX7_hasJob_0 : decode cX7_hasJob 0 = .ok (.aload_n 0, 1) := by decide +kernel
theorem dX7_hasJob_1 : decode cX7_hasJob 1 = .ok (.getfield 90, 3) := by decide +kernel
theorem dX7_hasJob_4 : decode cX7_hasJob 4 = .ok (.iconst 0, 1) := by decide +kernel
theorem dX7_hasJob_5 : decode cX7_hasJob 5 = .ok (.iaload, 1) := by decide +kernel
theorem dX7_hasJob_6 : decode cX7_hasJob 6 = .ok (.iload_n 1, 1) := by decide +kernel
theorem dX7_hasJob_7 : decode cX7_hasJob 7 = .ok (.if_icmp .eq 13, 3) := by decide +kernel
theorem dX7_hasJob_10 : decode cX7_hasJob 10 = .ok (.aload_n 0, 1) := by decide +kernel
theorem dX7_hasJob_11 : decode cX7_hasJob 11 = .ok (.getfield 90, 3) := by decide +kernel
theorem dX7_hasJob_14 : decode cX7_hasJob 14 = .ok (.iconst 1, 1) := by decide +kernel
theorem dX7_hasJob_15 : decode cX7_hasJob 15 = .ok (.iaload, 1) := by decide +kernel
theorem dX7_hasJob_16 : decode cX7_hasJob 16 = .ok (.iload_n 1, 1) := by decide +kernel
theorem dX7_hasJob_17 : decode cX7_hasJob 17 = .ok (.if_icmp .ne 7, 3) := by decide +kernel
theorem dX7_hasJob_20 : decode cX7_hasJob 20 = .ok (.iconst 1, 1) := by decide +kernel
theorem dX7_hasJob_21 : decode cX7_hasJob 21 = .ok (.goto 4, 3) := by decide +kernel
theorem dX7_hasJob_24 : decode cX7_hasJob 24 = .ok (.iconst 0, 1) := by decide +kernel
theorem dX7_hasJob_25 : decode cX7_hasJob 25 = .ok (.ireturn, 1) := by decide +kernel
theorem dX7_moves_0 : decode cX7_moves 0 = .ok (.aload_n 0, 1) := by decide +kernel
theorem dX7_moves_1 : decode cX7_moves 1 = .ok (.getfield 90, 3) := by decide +kernel
theorem dX7_moves_4 : decode cX7_moves 4 = .ok (.iload_n 1, 1) := by decide +kernel
theorem dX7_moves_5 : decode cX7_moves 5 = .ok (.iaload, 1) := by decide +kernel
theorem dX7_moves_6 : decode cX7_moves 6 = .ok (.istore_n 2, 1) := by decide +kernel
theorem dX7_moves_7 : decode cX7_moves 7 = .ok (.aload_n 0, 1) := by decide +kernel
theorem dX7_moves_8 : decode cX7_moves 8 = .ok (.getfield 93, 3) := by decide +kernel
theorem dX7_moves_11 : decode cX7_moves 11 = .ok (.iload_n 1, 1) := by decide +kernel
theorem dX7_moves_12 : decode cX7_moves 12 = .ok (.baload, 1) := by decide +kernel
theorem dX7_moves_13 : decode cX7_moves 13 = .ok (.ifCond .eq 12, 3) := by decide +kernel
theorem dX7_moves_16 : decode cX7_moves 16 = .ok (.aload_n 0, 1) := by decide +kernel
theorem dX7_moves_17 : decode cX7_moves 17 = .ok (.getfield 100, 3) := by decide +kernel
theorem dX7_moves_20 : decode cX7_moves 20 = .ok (.iload_n 1, 1) := by decide +kernel
theorem dX7_moves_21 : decode cX7_moves 21 = .ok (.iaload, 1) := by decide +kernel
theorem dX7_moves_22 : decode cX7_moves 22 = .ok (.goto 9, 3) := by decide +kernel
theorem dX7_moves_25 : decode cX7_moves 25 = .ok (.aload_n 0, 1) := by decide +kernel
theorem dX7_moves_26 : decode cX7_moves 26 = .ok (.getfield 97, 3) := by decide +kernel
theorem dX7_moves_29 : decode cX7_moves 29 = .ok (.iload_n 1, 1) := by decide +kernel
theorem dX7_moves_30 : decode cX7_moves 30 = .ok (.iaload, 1) := by decide +kernel
theorem dX7_moves_31 : decode cX7_moves 31 = .ok (.istore_n 3, 1) := by decide +kernel
theorem dX7_moves_32 : decode cX7_moves 32 = .ok (.aload_n 0, 1) := by decide +kernel
theorem dX7_moves_33 : decode cX7_moves 33 = .ok (.getfield 87, 3) := by decide +kernel
theorem dX7_moves_36 : decode cX7_moves 36 = .ok (.iload_n 1, 1) := by decide +kernel
theorem dX7_moves_37 : decode cX7_moves 37 = .ok (.iaload, 1) := by decide +kernel
theorem dX7_moves_38 : decode cX7_moves 38 = .ok (.iload_n 3, 1) := by decide +kernel
theorem dX7_moves_39 : decode cX7_moves 39 = .ok (.if_icmp .eq 86, 3) := by decide +kernel
theorem dX7_moves_42 : decode cX7_moves 42 = .ok (.iload_n 3, 1) := by decide +kernel
theorem dX7_moves_43 : decode cX7_moves 43 = .ok (.aload_n 0, 1) := by decide +kernel
theorem dX7_moves_44 : decode cX7_moves 44 = .ok (.getfield 87, 3) := by decide +kernel
theorem dX7_moves_47 : decode cX7_moves 47 = .ok (.iload_n 1, 1) := by decide +kernel
theorem dX7_moves_48 : decode cX7_moves 48 = .ok (.iaload, 1) := by decide +kernel
theorem dX7_moves_49 : decode cX7_moves 49 = .ok (.if_icmp .le 7, 3) := by decide +kernel
theorem dX7_moves_52 : decode cX7_moves 52 = .ok (.iconst 1, 1) := by decide +kernel
theorem dX7_moves_53 : decode cX7_moves 53 = .ok (.goto 4, 3) := by decide +kernel
theorem dX7_moves_56 : decode cX7_moves 56 = .ok (.iconst (-1), 1) := by decide +kernel
theorem dX7_moves_57 : decode cX7_moves 57 = .ok (.istore 4, 2) := by decide +kernel
theorem dX7_moves_59 : decode cX7_moves 59 = .ok (.aload_n 0, 1) := by decide +kernel
theorem dX7_moves_60 : decode cX7_moves 60 = .ok (.getfield 87, 3) := by decide +kernel
theorem dX7_moves_63 : decode cX7_moves 63 = .ok (.iload_n 1, 1) := by decide +kernel
theorem dX7_moves_64 : decode cX7_moves 64 = .ok (.iaload, 1) := by decide +kernel
theorem dX7_moves_65 : decode cX7_moves 65 = .ok (.iload 4, 2) := by decide +kernel
theorem dX7_moves_67 : decode cX7_moves 67 = .ok (.iadd, 1) := by decide +kernel
theorem dX7_moves_68 : decode cX7_moves 68 = .ok (.istore 5, 2) := by decide +kernel
theorem dX7_moves_70 : decode cX7_moves 70 = .ok (.aload_n 0, 1) := by decide +kernel
theorem dX7_moves_71 : decode cX7_moves 71 = .ok (.getfield 87, 3) := by decide +kernel
theorem dX7_moves_74 : decode cX7_moves 74 = .ok (.iconst 1, 1) := by decide +kernel
theorem dX7_moves_75 : decode cX7_moves 75 = .ok (.iload_n 1, 1) := by decide +kernel
theorem dX7_moves_76 : decode cX7_moves 76 = .ok (.isub, 1) := by decide +kernel
theorem dX7_moves_77 : decode cX7_moves 77 = .ok (.iaload, 1) := by decide +kernel
theorem dX7_moves_78 : decode cX7_moves 78 = .ok (.iload 5, 2) := by decide +kernel
theorem dX7_moves_80 : decode cX7_moves 80 = .ok (.if_icmp .ne 26, 3) := by decide +kernel
theorem dX7_moves_83 : decode cX7_moves 83 = .ok (.aload_n 0, 1) := by decide +kernel
theorem dX7_moves_84 : decode cX7_moves 84 = .ok (.getfield 87, 3) := by decide +kernel
theorem dX7_moves_87 : decode cX7_moves 87 = .ok (.iconst 1, 1) := by decide +kernel
theorem dX7_moves_88 : decode cX7_moves 88 = .ok (.iload_n 1, 1) := by decide +kernel
theorem dX7_moves_89 : decode cX7_moves 89 = .ok (.isub, 1) := by decide +kernel
theorem dX7_moves_90 : decode cX7_moves 90 = .ok (.dup2, 1) := by decide +kernel
theorem dX7_moves_91 : decode cX7_moves 91 = .ok (.iaload, 1) := by decide +kernel
theorem dX7_moves_92 : decode cX7_moves 92 = .ok (.iload 4, 2) := by decide +kernel
theorem dX7_moves_94 : decode cX7_moves 94 = .ok (.iadd, 1) := by decide +kernel
theorem dX7_moves_95 : decode cX7_moves 95 = .ok (.iastore, 1) := by decide +kernel
theorem dX7_moves_96 : decode cX7_moves 96 = .ok (.aload_n 0, 1) := by decide +kernel
theorem dX7_moves_97 : decode cX7_moves 97 = .ok (.dup, 1) := by decide +kernel
theorem dX7_moves_98 : decode cX7_moves 98 = .ok (.getfield 190, 3) := by decide +kernel
theorem dX7_moves_101 : decode cX7_moves 101 = .ok (.iconst 1, 1) := by decide +kernel
theorem dX7_moves_102 : decode cX7_moves 102 = .ok (.iadd, 1) := by decide +kernel
theorem dX7_moves_103 : decode cX7_moves 103 = .ok (.putfield 190, 3) := by decide +kernel
theorem dX7_moves_106 : decode cX7_moves 106 = .ok (.aload_n 0, 1) := by decide +kernel
theorem dX7_moves_107 : decode cX7_moves 107 = .ok (.getfield 87, 3) := by decide +kernel
theorem dX7_moves_110 : decode cX7_moves 110 = .ok (.iload_n 1, 1) := by decide +kernel
theorem dX7_moves_111 : decode cX7_moves 111 = .ok (.iload 5, 2) := by decide +kernel
theorem dX7_moves_113 : decode cX7_moves 113 = .ok (.iastore, 1) := by decide +kernel
theorem dX7_moves_114 : decode cX7_moves 114 = .ok (.aload_n 0, 1) := by decide +kernel
theorem dX7_moves_115 : decode cX7_moves 115 = .ok (.dup, 1) := by decide +kernel
theorem dX7_moves_116 : decode cX7_moves 116 = .ok (.getfield 190, 3) := by decide +kernel
theorem dX7_moves_119 : decode cX7_moves 119 = .ok (.iconst 1, 1) := by decide +kernel
theorem dX7_moves_120 : decode cX7_moves 120 = .ok (.iadd, 1) := by decide +kernel
theorem dX7_moves_121 : decode cX7_moves 121 = .ok (.putfield 190, 3) := by decide +kernel
theorem dX7_moves_124 : decode cX7_moves 124 = .ok (.return_, 1) := by decide +kernel
theorem dX7_moves_125 : decode cX7_moves 125 = .ok (.aload_n 0, 1) := by decide +kernel
theorem dX7_moves_126 : decode cX7_moves 126 = .ok (.getfield 103, 3) := by decide +kernel
theorem dX7_moves_129 : decode cX7_moves 129 = .ok (.iload_n 1, 1) := by decide +kernel
theorem dX7_moves_130 : decode cX7_moves 130 = .ok (.iaload, 1) := by decide +kernel
theorem dX7_moves_131 : decode cX7_moves 131 = .ok (.istore 4, 2) := by decide +kernel
theorem dX7_moves_133 : decode cX7_moves 133 = .ok (.aload_n 0, 1) := by decide +kernel
theorem dX7_moves_134 : decode cX7_moves 134 = .ok (.getfield 93, 3) := by decide +kernel
theorem dX7_moves_137 : decode cX7_moves 137 = .ok (.iload_n 1, 1) := by decide +kernel
theorem dX7_moves_138 : decode cX7_moves 138 = .ok (.baload, 1) := by decide +kernel
theorem dX7_moves_139 : decode cX7_moves 139 = .ok (.ifCond .ne 55, 3) := by decide +kernel
theorem dX7_moves_142 : decode cX7_moves 142 = .ok (.aload_n 0, 1) := by decide +kernel
theorem dX7_moves_143 : decode cX7_moves 143 = .ok (.getfield 93, 3) := by decide +kernel
theorem dX7_moves_146 : decode cX7_moves 146 = .ok (.iload_n 1, 1) := by decide +kernel
theorem dX7_moves_147 : decode cX7_moves 147 = .ok (.iconst 1, 1) := by decide +kernel
theorem dX7_moves_148 : decode cX7_moves 148 = .ok (.bastore, 1) := by decide +kernel
theorem dX7_moves_149 : decode cX7_moves 149 = .ok (.aload_n 0, 1) := by decide +kernel
theorem dX7_moves_150 : decode cX7_moves 150 = .ok (.getfield 22, 3) := by decide +kernel
theorem dX7_moves_153 : decode cX7_moves 153 = .ok (.iload_n 2, 1) := by decide +kernel
theorem dX7_moves_154 : decode cX7_moves 154 = .ok (.iconst 1, 1) := by decide +kernel
theorem dX7_moves_155 : decode cX7_moves 155 = .ok (.iastore, 1) := by decide +kernel
theorem dX7_moves_156 : decode cX7_moves 156 = .ok (.aload_n 0, 1) := by decide +kernel
theorem dX7_moves_157 : decode cX7_moves 157 = .ok (.getfield 106, 3) := by decide +kernel
theorem dX7_moves_160 : decode cX7_moves 160 = .ok (.iload_n 1, 1) := by decide +kernel
theorem dX7_moves_161 : decode cX7_moves 161 = .ok (.baload, 1) := by decide +kernel
theorem dX7_moves_162 : decode cX7_moves 162 = .ok (.ifCond .eq 4, 3) := by decide +kernel
theorem dX7_moves_165 : decode cX7_moves 165 = .ok (.return_, 1) := by decide +kernel
theorem dX7_moves_166 : decode cX7_moves 166 = .ok (.aload_n 0, 1) := by decide +kernel
theorem dX7_moves_167 : decode cX7_moves 167 = .ok (.getfield 72, 3) := by decide +kernel
theorem dX7_moves_170 : decode cX7_moves 170 = .ok (.iload 4, 2) := by decide +kernel
theorem dX7_moves_172 : decode cX7_moves 172 = .ok (.iconst (-1), 1) := by decide +kernel
theorem dX7_moves_173 : decode cX7_moves 173 = .ok (.iastore, 1) := by decide +kernel
theorem dX7_moves_174 : decode cX7_moves 174 = .ok (.aload_n 0, 1) := by decide +kernel
theorem dX7_moves_175 : decode cX7_moves 175 = .ok (.getfield 69, 3) := by decide +kernel
theorem dX7_moves_178 : decode cX7_moves 178 = .ok (.iload 4, 2) := by decide +kernel
theorem dX7_moves_180 : decode cX7_moves 180 = .ok (.iaload, 1) := by decide +kernel
theorem dX7_moves_181 : decode cX7_moves 181 = .ok (.iconst 4, 1) := by decide +kernel
theorem dX7_moves_182 : decode cX7_moves 182 = .ok (.if_icmp .eq 11, 3) := by decide +kernel
theorem dX7_moves_185 : decode cX7_moves 185 = .ok (.aload_n 0, 1) := by decide +kernel
theorem dX7_moves_186 : decode cX7_moves 186 = .ok (.getfield 69, 3) := by decide +kernel
theorem dX7_moves_189 : decode cX7_moves 189 = .ok (.iload 4, 2) := by decide +kernel
theorem dX7_moves_191 : decode cX7_moves 191 = .ok (.iconst 0, 1) := by decide +kernel
theorem dX7_moves_192 : decode cX7_moves 192 = .ok (.iastore, 1) := by decide +kernel
theorem dX7_moves_193 : decode cX7_moves 193 = .ok (.return_, 1) := by decide +kernel
theorem dX7_moves_194 : decode cX7_moves 194 = .ok (.aload_n 0, 1) := by decide +kernel
theorem dX7_moves_195 : decode cX7_moves 195 = .ok (.getfield 90, 3) := by decide +kernel
theorem dX7_moves_198 : decode cX7_moves 198 = .ok (.iload_n 1, 1) := by decide +kernel
theorem dX7_moves_199 : decode cX7_moves 199 = .ok (.iconst (-1), 1) := by decide +kernel
theorem dX7_moves_200 : decode cX7_moves 200 = .ok (.iastore, 1) := by decide +kernel
theorem dX7_moves_201 : decode cX7_moves 201 = .ok (.aload_n 0, 1) := by decide +kernel
theorem dX7_moves_202 : decode cX7_moves 202 = .ok (.getfield 93, 3) := by decide +kernel
theorem dX7_moves_205 : decode cX7_moves 205 = .ok (.iload_n 1, 1) := by decide +kernel
theorem dX7_moves_206 : decode cX7_moves 206 = .ok (.iconst 0, 1) := by decide +kernel
theorem dX7_moves_207 : decode cX7_moves 207 = .ok (.bastore, 1) := by decide +kernel
theorem dX7_moves_208 : decode cX7_moves 208 = .ok (.aload_n 0, 1) := by decide +kernel
theorem dX7_moves_209 : decode cX7_moves 209 = .ok (.getfield 106, 3) := by decide +kernel
theorem dX7_moves_212 : decode cX7_moves 212 = .ok (.iload_n 1, 1) := by decide +kernel
theorem dX7_moves_213 : decode cX7_moves 213 = .ok (.baload, 1) := by decide +kernel
theorem dX7_moves_214 : decode cX7_moves 214 = .ok (.ifCond .eq 13, 3) := by decide +kernel
theorem dX7_moves_217 : decode cX7_moves 217 = .ok (.aload_n 0, 1) := by decide +kernel
theorem dX7_moves_218 : decode cX7_moves 218 = .ok (.iload 4, 2) := by decide +kernel
theorem dX7_moves_220 : decode cX7_moves 220 = .ok (.iload_n 2, 1) := by decide +kernel
theorem dX7_moves_221 : decode cX7_moves 221 = .ok (.invokevirtual 193, 3) := by decide +kernel
theorem dX7_moves_224 : decode cX7_moves 224 = .ok (.goto 10, 3) := by decide +kernel
theorem dX7_moves_227 : decode cX7_moves 227 = .ok (.aload_n 0, 1) := by decide +kernel
theorem dX7_moves_228 : decode cX7_moves 228 = .ok (.getfield 22, 3) := by decide +kernel
theorem dX7_moves_231 : decode cX7_moves 231 = .ok (.iload_n 2, 1) := by decide +kernel
theorem dX7_moves_232 : decode cX7_moves 232 = .ok (.iconst 0, 1) := by decide +kernel
theorem dX7_moves_233 : decode cX7_moves 233 = .ok (.iastore, 1) := by decide +kernel
theorem dX7_moves_234 : decode cX7_moves 234 = .ok (.return_, 1) := by decide +kernel
theorem dX7_may_0 : decode cX7_may 0 = .ok (.iconst 1, 1) := by decide +kernel
theorem dX7_may_1 : decode cX7_may 1 = .ok (.iload_n 1, 1) := by decide +kernel
theorem dX7_may_2 : decode cX7_may 2 = .ok (.isub, 1) := by decide +kernel
theorem dX7_may_3 : decode cX7_may 3 = .ok (.istore 4, 2) := by decide +kernel
theorem dX7_may_5 : decode cX7_may 5 = .ok (.aload_n 0, 1) := by decide +kernel
theorem dX7_may_6 : decode cX7_may 6 = .ok (.getfield 90, 3) := by decide +kernel
theorem dX7_may_9 : decode cX7_may 9 = .ok (.iload 4, 2) := by decide +kernel
theorem dX7_may_11 : decode cX7_may 11 = .ok (.iaload, 1) := by decide +kernel
theorem dX7_may_12 : decode cX7_may 12 = .ok (.iconst (-1), 1) := by decide +kernel
theorem dX7_may_13 : decode cX7_may 13 = .ok (.if_icmp .ne 5, 3) := by decide +kernel
theorem dX7_may_16 : decode cX7_may 16 = .ok (.iconst 1, 1) := by decide +kernel
theorem dX7_may_17 : decode cX7_may 17 = .ok (.ireturn, 1) := by decide +kernel
theorem dX7_may_18 : decode cX7_may 18 = .ok (.aload_n 0, 1) := by decide +kernel
theorem dX7_may_19 : decode cX7_may 19 = .ok (.getfield 87, 3) := by decide +kernel
theorem dX7_may_22 : decode cX7_may 22 = .ok (.iload_n 1, 1) := by decide +kernel
theorem dX7_may_23 : decode cX7_may 23 = .ok (.iaload, 1) := by decide +kernel
theorem dX7_may_24 : decode cX7_may 24 = .ok (.iload_n 2, 1) := by decide +kernel
theorem dX7_may_25 : decode cX7_may 25 = .ok (.iload_n 3, 1) := by decide +kernel
theorem dX7_may_26 : decode cX7_may 26 = .ok (.invokestatic 197, 3) := by decide +kernel
theorem dX7_may_29 : decode cX7_may 29 = .ok (.invokestatic 197, 3) := by decide +kernel
theorem dX7_may_32 : decode cX7_may 32 = .ok (.istore 5, 2) := by decide +kernel
theorem dX7_may_34 : decode cX7_may 34 = .ok (.aload_n 0, 1) := by decide +kernel
theorem dX7_may_35 : decode cX7_may 35 = .ok (.getfield 87, 3) := by decide +kernel
theorem dX7_may_38 : decode cX7_may 38 = .ok (.iload_n 1, 1) := by decide +kernel
theorem dX7_may_39 : decode cX7_may 39 = .ok (.iaload, 1) := by decide +kernel
theorem dX7_may_40 : decode cX7_may 40 = .ok (.iload_n 2, 1) := by decide +kernel
theorem dX7_may_41 : decode cX7_may 41 = .ok (.iload_n 3, 1) := by decide +kernel
theorem dX7_may_42 : decode cX7_may 42 = .ok (.invokestatic 203, 3) := by decide +kernel
theorem dX7_may_45 : decode cX7_may 45 = .ok (.invokestatic 203, 3) := by decide +kernel
theorem dX7_may_48 : decode cX7_may 48 = .ok (.istore 6, 2) := by decide +kernel
theorem dX7_may_50 : decode cX7_may 50 = .ok (.aload_n 0, 1) := by decide +kernel
theorem dX7_may_51 : decode cX7_may 51 = .ok (.getfield 93, 3) := by decide +kernel
theorem dX7_may_54 : decode cX7_may 54 = .ok (.iload 4, 2) := by decide +kernel
theorem dX7_may_56 : decode cX7_may 56 = .ok (.baload, 1) := by decide +kernel
theorem dX7_may_57 : decode cX7_may 57 = .ok (.ifCond .eq 13, 3) := by decide +kernel
theorem dX7_may_60 : decode cX7_may 60 = .ok (.aload_n 0, 1) := by decide +kernel
theorem dX7_may_61 : decode cX7_may 61 = .ok (.getfield 100, 3) := by decide +kernel
theorem dX7_may_64 : decode cX7_may 64 = .ok (.iload 4, 2) := by decide +kernel
theorem dX7_may_66 : decode cX7_may 66 = .ok (.iaload, 1) := by decide +kernel
theorem dX7_may_67 : decode cX7_may 67 = .ok (.goto 10, 3) := by decide +kernel
theorem dX7_may_70 : decode cX7_may 70 = .ok (.aload_n 0, 1) := by decide +kernel
theorem dX7_may_71 : decode cX7_may 71 = .ok (.getfield 97, 3) := by decide +kernel
theorem dX7_may_74 : decode cX7_may 74 = .ok (.iload 4, 2) := by decide +kernel
theorem dX7_may_76 : decode cX7_may 76 = .ok (.iaload, 1) := by decide +kernel
theorem dX7_may_77 : decode cX7_may 77 = .ok (.istore 7, 2) := by decide +kernel
theorem dX7_may_79 : decode cX7_may 79 = .ok (.aload_n 0, 1) := by decide +kernel
theorem dX7_may_80 : decode cX7_may 80 = .ok (.getfield 87, 3) := by decide +kernel
theorem dX7_may_83 : decode cX7_may 83 = .ok (.iload 4, 2) := by decide +kernel
theorem dX7_may_85 : decode cX7_may 85 = .ok (.iaload, 1) := by decide +kernel
theorem dX7_may_86 : decode cX7_may 86 = .ok (.iload 7, 2) := by decide +kernel
theorem dX7_may_88 : decode cX7_may 88 = .ok (.aload_n 0, 1) := by decide +kernel
theorem dX7_may_89 : decode cX7_may 89 = .ok (.getfield 100, 3) := by decide +kernel
theorem dX7_may_92 : decode cX7_may 92 = .ok (.iload 4, 2) := by decide +kernel
theorem dX7_may_94 : decode cX7_may 94 = .ok (.iaload, 1) := by decide +kernel
theorem dX7_may_95 : decode cX7_may 95 = .ok (.invokestatic 197, 3) := by decide +kernel
theorem dX7_may_98 : decode cX7_may 98 = .ok (.invokestatic 197, 3) := by decide +kernel
theorem dX7_may_101 : decode cX7_may 101 = .ok (.istore 8, 2) := by decide +kernel
theorem dX7_may_103 : decode cX7_may 103 = .ok (.aload_n 0, 1) := by decide +kernel
theorem dX7_may_104 : decode cX7_may 104 = .ok (.getfield 87, 3) := by decide +kernel
theorem dX7_may_107 : decode cX7_may 107 = .ok (.iload 4, 2) := by decide +kernel
theorem dX7_may_109 : decode cX7_may 109 = .ok (.iaload, 1) := by decide +kernel
theorem dX7_may_110 : decode cX7_may 110 = .ok (.iload 7, 2) := by decide +kernel
theorem dX7_may_112 : decode cX7_may 112 = .ok (.aload_n 0, 1) := by decide +kernel
theorem dX7_may_113 : decode cX7_may 113 = .ok (.getfield 100, 3) := by decide +kernel
theorem dX7_may_116 : decode cX7_may 116 = .ok (.iload 4, 2) := by decide +kernel
theorem dX7_may_118 : decode cX7_may 118 = .ok (.iaload, 1) := by decide +kernel
theorem dX7_may_119 : decode cX7_may 119 = .ok (.invokestatic 203, 3) := by decide +kernel
theorem dX7_may_122 : decode cX7_may 122 = .ok (.invokestatic 203, 3) := by decide +kernel
theorem dX7_may_125 : decode cX7_may 125 = .ok (.istore 9, 2) := by decide +kernel
theorem dX7_may_127 : decode cX7_may 127 = .ok (.iload_n 1, 1) := by decide +kernel
theorem dX7_may_128 : decode cX7_may 128 = .ok (.ifCond .ne 18, 3) := by decide +kernel
theorem dX7_may_131 : decode cX7_may 131 = .ok (.iload 6, 2) := by decide +kernel
theorem dX7_may_133 : decode cX7_may 133 = .ok (.iload 8, 2) := by decide +kernel
theorem dX7_may_135 : decode cX7_may 135 = .ok (.if_icmp .ge 7, 3) := by decide +kernel
theorem dX7_may_138 : decode cX7_may 138 = .ok (.iconst 1, 1) := by decide +kernel
theorem dX7_may_139 : decode cX7_may 139 = .ok (.goto 19, 3) := by decide +kernel
theorem dX7_may_142 : decode cX7_may 142 = .ok (.iconst 0, 1) := by decide +kernel
theorem dX7_may_143 : decode cX7_may 143 = .ok (.goto 15, 3) := by decide +kernel
theorem dX7_may_146 : decode cX7_may 146 = .ok (.iload 5, 2) := by decide +kernel
theorem dX7_may_148 : decode cX7_may 148 = .ok (.iload 9, 2) := by decide +kernel
theorem dX7_may_150 : decode cX7_may 150 = .ok (.if_icmp .le 7, 3) := by decide +kernel
theorem dX7_may_153 : decode cX7_may 153 = .ok (.iconst 1, 1) := by decide +kernel
theorem dX7_may_154 : decode cX7_may 154 = .ok (.goto 4, 3) := by decide +kernel
theorem dX7_may_157 : decode cX7_may 157 = .ok (.iconst 0, 1) := by decide +kernel
theorem dX7_may_158 : decode cX7_may 158 = .ok (.ireturn, 1) := by decide +kernel
theorem dX7_takesJob_0 : decode cX7_takesJob 0 = .ok (.aload_n 0, 1) := by decide +kernel
theorem dX7_takesJob_1 : decode cX7_takesJob 1 = .ok (.getfield 90, 3) := by decide +kernel
theorem dX7_takesJob_4 : decode cX7_takesJob 4 = .ok (.iload_n 1, 1) := by decide +kernel
theorem dX7_takesJob_5 : decode cX7_takesJob 5 = .ok (.iload_n 2, 1) := by decide +kernel
theorem dX7_takesJob_6 : decode cX7_takesJob 6 = .ok (.iastore, 1) := by decide +kernel
theorem dX7_takesJob_7 : decode cX7_takesJob 7 = .ok (.aload_n 0, 1) := by decide +kernel
theorem dX7_takesJob_8 : decode cX7_takesJob 8 = .ok (.getfield 93, 3) := by decide +kernel
theorem dX7_takesJob_11 : decode cX7_takesJob 11 = .ok (.iload_n 1, 1) := by decide +kernel
theorem dX7_takesJob_12 : decode cX7_takesJob 12 = .ok (.iconst 0, 1) := by decide +kernel
theorem dX7_takesJob_13 : decode cX7_takesJob 13 = .ok (.bastore, 1) := by decide +kernel
theorem dX7_takesJob_14 : decode cX7_takesJob 14 = .ok (.aload_n 0, 1) := by decide +kernel
theorem dX7_takesJob_15 : decode cX7_takesJob 15 = .ok (.getfield 97, 3) := by decide +kernel
theorem dX7_takesJob_18 : decode cX7_takesJob 18 = .ok (.iload_n 1, 1) := by decide +kernel
theorem dX7_takesJob_19 : decode cX7_takesJob 19 = .ok (.iload_n 3, 1) := by decide +kernel
theorem dX7_takesJob_20 : decode cX7_takesJob 20 = .ok (.iastore, 1) := by decide +kernel
theorem dX7_takesJob_21 : decode cX7_takesJob 21 = .ok (.aload_n 0, 1) := by decide +kernel
theorem dX7_takesJob_22 : decode cX7_takesJob 22 = .ok (.getfield 100, 3) := by decide +kernel
theorem dX7_takesJob_25 : decode cX7_takesJob 25 = .ok (.iload_n 1, 1) := by decide +kernel
theorem dX7_takesJob_26 : decode cX7_takesJob 26 = .ok (.iload 4, 2) := by decide +kernel
theorem dX7_takesJob_28 : decode cX7_takesJob 28 = .ok (.iastore, 1) := by decide +kernel
theorem dX7_takesJob_29 : decode cX7_takesJob 29 = .ok (.aload_n 0, 1) := by decide +kernel
theorem dX7_takesJob_30 : decode cX7_takesJob 30 = .ok (.getfield 103, 3) := by decide +kernel
theorem dX7_takesJob_33 : decode cX7_takesJob 33 = .ok (.iload_n 1, 1) := by decide +kernel
theorem dX7_takesJob_34 : decode cX7_takesJob 34 = .ok (.iload 5, 2) := by decide +kernel
theorem dX7_takesJob_36 : decode cX7_takesJob 36 = .ok (.iastore, 1) := by decide +kernel
theorem dX7_takesJob_37 : decode cX7_takesJob 37 = .ok (.aload_n 0, 1) := by decide +kernel
theorem dX7_takesJob_38 : decode cX7_takesJob 38 = .ok (.getfield 106, 3) := by decide +kernel
theorem dX7_takesJob_41 : decode cX7_takesJob 41 = .ok (.iload_n 1, 1) := by decide +kernel
theorem dX7_takesJob_42 : decode cX7_takesJob 42 = .ok (.iload 6, 2) := by decide +kernel
theorem dX7_takesJob_44 : decode cX7_takesJob 44 = .ok (.bastore, 1) := by decide +kernel
theorem dX7_takesJob_45 : decode cX7_takesJob 45 = .ok (.iload 6, 2) := by decide +kernel
theorem dX7_takesJob_47 : decode cX7_takesJob 47 = .ok (.ifCond .ne 4, 3) := by decide +kernel
theorem dX7_takesJob_50 : decode cX7_takesJob 50 = .ok (.return_, 1) := by decide +kernel
theorem dX7_takesJob_51 : decode cX7_takesJob 51 = .ok (.aload_n 0, 1) := by decide +kernel
theorem dX7_takesJob_52 : decode cX7_takesJob 52 = .ok (.getfield 69, 3) := by decide +kernel
theorem dX7_takesJob_55 : decode cX7_takesJob 55 = .ok (.iload 5, 2) := by decide +kernel
theorem dX7_takesJob_57 : decode cX7_takesJob 57 = .ok (.iconst 1, 1) := by decide +kernel
theorem dX7_takesJob_58 : decode cX7_takesJob 58 = .ok (.iastore, 1) := by decide +kernel
theorem dX7_takesJob_59 : decode cX7_takesJob 59 = .ok (.aload_n 0, 1) := by decide +kernel
theorem dX7_takesJob_60 : decode cX7_takesJob 60 = .ok (.getfield 72, 3) := by decide +kernel
theorem dX7_takesJob_63 : decode cX7_takesJob 63 = .ok (.iload 5, 2) := by decide +kernel
theorem dX7_takesJob_65 : decode cX7_takesJob 65 = .ok (.iload_n 2, 1) := by decide +kernel
theorem dX7_takesJob_66 : decode cX7_takesJob 66 = .ok (.iastore, 1) := by decide +kernel
theorem dX7_takesJob_67 : decode cX7_takesJob 67 = .ok (.return_, 1) := by decide +kernel
theorem dX7_asksForJob_0 : decode cX7_asksForJob 0 = .ok (.iconst 0, 1) := by decide +kernel
theorem dX7_asksForJob_1 : decode cX7_asksForJob 1 = .ok (.istore_n 2, 1) := by decide +kernel
theorem dX7_asksForJob_2 : decode cX7_asksForJob 2 = .ok (.iload_n 2, 1) := by decide +kernel
theorem dX7_asksForJob_3 : decode cX7_asksForJob 3 = .ok (.aload_n 0, 1) := by decide +kernel
theorem dX7_asksForJob_4 : decode cX7_asksForJob 4 = .ok (.getfield 176, 3) := by decide +kernel
theorem dX7_asksForJob_7 : decode cX7_asksForJob 7 = .ok (.if_icmp .ge 121, 3) := by decide +kernel
theorem dX7_asksForJob_10 : decode cX7_asksForJob 10 = .ok (.aload_n 0, 1) := by decide +kernel
theorem dX7_asksForJob_11 : decode cX7_asksForJob 11 = .ok (.getfield 69, 3) := by decide +kernel
theorem dX7_asksForJob_14 : decode cX7_asksForJob 14 = .ok (.iload_n 2, 1) := by decide +kernel
theorem dX7_asksForJob_15 : decode cX7_asksForJob 15 = .ok (.iaload, 1) := by decide +kernel
theorem dX7_asksForJob_16 : decode cX7_asksForJob 16 = .ok (.iconst 3, 1) := by decide +kernel
theorem dX7_asksForJob_17 : decode cX7_asksForJob 17 = .ok (.if_icmp .eq 23, 3) := by decide +kernel
theorem dX7_asksForJob_20 : decode cX7_asksForJob 20 = .ok (.aload_n 0, 1) := by decide +kernel
theorem dX7_asksForJob_21 : decode cX7_asksForJob 21 = .ok (.getfield 69, 3) := by decide +kernel
theorem dX7_asksForJob_24 : decode cX7_asksForJob 24 = .ok (.iload_n 2, 1) := by decide +kernel
theorem dX7_asksForJob_25 : decode cX7_asksForJob 25 = .ok (.iaload, 1) := by decide +kernel
theorem dX7_asksForJob_26 : decode cX7_asksForJob 26 = .ok (.iconst 4, 1) := by decide +kernel
theorem dX7_asksForJob_27 : decode cX7_asksForJob 27 = .ok (.if_icmp .ne 17, 3) := by decide +kernel
theorem dX7_asksForJob_30 : decode cX7_asksForJob 30 = .ok (.aload_n 0, 1) := by decide +kernel
theorem dX7_asksForJob_31 : decode cX7_asksForJob 31 = .ok (.getfield 72, 3) := by decide +kernel
theorem dX7_asksForJob_34 : decode cX7_asksForJob 34 = .ok (.iload_n 2, 1) := by decide +kernel
theorem dX7_asksForJob_35 : decode cX7_asksForJob 35 = .ok (.iaload, 1) := by decide +kernel
theorem dX7_asksForJob_36 : decode cX7_asksForJob 36 = .ok (.iconst (-1), 1) := by decide +kernel
theorem dX7_asksForJob_37 : decode cX7_asksForJob 37 = .ok (.if_icmp .eq 7, 3) := by decide +kernel
theorem dX7_asksForJob_40 : decode cX7_asksForJob 40 = .ok (.iconst 1, 1) := by decide +kernel
theorem dX7_asksForJob_41 : decode cX7_asksForJob 41 = .ok (.goto 4, 3) := by decide +kernel
theorem dX7_asksForJob_44 : decode cX7_asksForJob 44 = .ok (.iconst 0, 1) := by decide +kernel
theorem dX7_asksForJob_45 : decode cX7_asksForJob 45 = .ok (.istore_n 3, 1) := by decide +kernel
theorem dX7_asksForJob_46 : decode cX7_asksForJob 46 = .ok (.iload_n 3, 1) := by decide +kernel
theorem dX7_asksForJob_47 : decode cX7_asksForJob 47 = .ok (.ifCond .eq 75, 3) := by decide +kernel
theorem dX7_asksForJob_50 : decode cX7_asksForJob 50 = .ok (.aload_n 0, 1) := by decide +kernel
theorem dX7_asksForJob_51 : decode cX7_asksForJob 51 = .ok (.aload_n 0, 1) := by decide +kernel
theorem dX7_asksForJob_52 : decode cX7_asksForJob 52 = .ok (.getfield 72, 3) := by decide +kernel
theorem dX7_asksForJob_55 : decode cX7_asksForJob 55 = .ok (.iload_n 2, 1) := by decide +kernel
theorem dX7_asksForJob_56 : decode cX7_asksForJob 56 = .ok (.iaload, 1) := by decide +kernel
theorem dX7_asksForJob_57 : decode cX7_asksForJob 57 = .ok (.invokevirtual 206, 3) := by decide +kernel
theorem dX7_asksForJob_60 : decode cX7_asksForJob 60 = .ok (.ifCond .ne 62, 3) := by decide +kernel
theorem dX7_asksForJob_63 : decode cX7_asksForJob 63 = .ok (.aload_n 0, 1) := by decide +kernel
theorem dX7_asksForJob_64 : decode cX7_asksForJob 64 = .ok (.iload_n 1, 1) := by decide +kernel
theorem dX7_asksForJob_65 : decode cX7_asksForJob 65 = .ok (.aload_n 0, 1) := by decide +kernel
theorem dX7_asksForJob_66 : decode cX7_asksForJob 66 = .ok (.getfield 66, 3) := by decide +kernel
theorem dX7_asksForJob_69 : decode cX7_asksForJob 69 = .ok (.iload_n 2, 1) := by decide +kernel
theorem dX7_asksForJob_70 : decode cX7_asksForJob 70 = .ok (.iaload, 1) := by decide +kernel
theorem dX7_asksForJob_71 : decode cX7_asksForJob 71 = .ok (.aload_n 0, 1) := by decide +kernel
theorem dX7_asksForJob_72 : decode cX7_asksForJob 72 = .ok (.getfield 7, 3) := by decide +kernel
theorem dX7_asksForJob_75 : decode cX7_asksForJob 75 = .ok (.aload_n 0, 1) := by decide +kernel
theorem dX7_asksForJob_76 : decode cX7_asksForJob 76 = .ok (.getfield 72, 3) := by decide +kernel
theorem dX7_asksForJob_79 : decode cX7_asksForJob 79 = .ok (.iload_n 2, 1) := by decide +kernel
theorem dX7_asksForJob_80 : decode cX7_asksForJob 80 = .ok (.iaload, 1) := by decide +kernel
theorem dX7_asksForJob_81 : decode cX7_asksForJob 81 = .ok (.iaload, 1) := by decide +kernel
theorem dX7_asksForJob_82 : decode cX7_asksForJob 82 = .ok (.invokevirtual 209, 3) := by decide +kernel
theorem dX7_asksForJob_85 : decode cX7_asksForJob 85 = .ok (.ifCond .ne 6, 3) := by decide +kernel
theorem dX7_asksForJob_88 : decode cX7_asksForJob 88 = .ok (.goto 34, 3) := by decide +kernel
theorem dX7_asksForJob_91 : decode cX7_asksForJob 91 = .ok (.aload_n 0, 1) := by decide +kernel
theorem dX7_asksForJob_92 : decode cX7_asksForJob 92 = .ok (.iload_n 1, 1) := by decide +kernel
theorem dX7_asksForJob_93 : decode cX7_asksForJob 93 = .ok (.aload_n 0, 1) := by decide +kernel
theorem dX7_asksForJob_94 : decode cX7_asksForJob 94 = .ok (.getfield 72, 3) := by decide +kernel
theorem dX7_asksForJob_97 : decode cX7_asksForJob 97 = .ok (.iload_n 2, 1) := by decide +kernel
theorem dX7_asksForJob_98 : decode cX7_asksForJob 98 = .ok (.iaload, 1) := by decide +kernel
theorem dX7_asksForJob_99 : decode cX7_asksForJob 99 = .ok (.aload_n 0, 1) := by decide +kernel
theorem dX7_asksForJob_100 : decode cX7_asksForJob 100 = .ok (.getfield 66, 3) := by decide +kernel
theorem dX7_asksForJob_103 : decode cX7_asksForJob 103 = .ok (.iload_n 2, 1) := by decide +kernel
theorem dX7_asksForJob_104 : decode cX7_asksForJob 104 = .ok (.iaload, 1) := by decide +kernel
theorem dX7_asksForJob_105 : decode cX7_asksForJob 105 = .ok (.aload_n 0, 1) := by decide +kernel
theorem dX7_asksForJob_106 : decode cX7_asksForJob 106 = .ok (.getfield 7, 3) := by decide +kernel
theorem dX7_asksForJob_109 : decode cX7_asksForJob 109 = .ok (.aload_n 0, 1) := by decide +kernel
theorem dX7_asksForJob_110 : decode cX7_asksForJob 110 = .ok (.getfield 72, 3) := by decide +kernel
theorem dX7_asksForJob_113 : decode cX7_asksForJob 113 = .ok (.iload_n 2, 1) := by decide +kernel
theorem dX7_asksForJob_114 : decode cX7_asksForJob 114 = .ok (.iaload, 1) := by decide +kernel
theorem dX7_asksForJob_115 : decode cX7_asksForJob 115 = .ok (.iaload, 1) := by decide +kernel
theorem dX7_asksForJob_116 : decode cX7_asksForJob 116 = .ok (.iload_n 2, 1) := by decide +kernel
theorem dX7_asksForJob_117 : decode cX7_asksForJob 117 = .ok (.iconst 0, 1) := by decide +kernel
theorem dX7_asksForJob_118 : decode cX7_asksForJob 118 = .ok (.invokevirtual 212, 3) := by decide +kernel
theorem dX7_asksForJob_121 : decode cX7_asksForJob 121 = .ok (.return_, 1) := by decide +kernel
theorem dX7_asksForJob_122 : decode cX7_asksForJob 122 = .ok (.iinc 2 1, 3) := by decide +kernel
theorem dX7_asksForJob_125 : decode cX7_asksForJob 125 = .ok (.goto (-123), 3) := by decide +kernel
theorem dX7_asksForJob_128 : decode cX7_asksForJob 128 = .ok (.iconst 0, 1) := by decide +kernel
theorem dX7_asksForJob_129 : decode cX7_asksForJob 129 = .ok (.istore_n 2, 1) := by decide +kernel
theorem dX7_asksForJob_130 : decode cX7_asksForJob 130 = .ok (.iload_n 2, 1) := by decide +kernel
theorem dX7_asksForJob_131 : decode cX7_asksForJob 131 = .ok (.aload_n 0, 1) := by decide +kernel
theorem dX7_asksForJob_132 : decode cX7_asksForJob 132 = .ok (.getfield 176, 3) := by decide +kernel
theorem dX7_asksForJob_135 : decode cX7_asksForJob 135 = .ok (.if_icmp .ge 18, 3) := by decide +kernel
theorem dX7_asksForJob_138 : decode cX7_asksForJob 138 = .ok (.aload_n 0, 1) := by decide +kernel
theorem dX7_asksForJob_139 : decode cX7_asksForJob 139 = .ok (.getfield 69, 3) := by decide +kernel
theorem dX7_asksForJob_142 : decode cX7_asksForJob 142 = .ok (.iload_n 2, 1) := by decide +kernel
theorem dX7_asksForJob_143 : decode cX7_asksForJob 143 = .ok (.iaload, 1) := by decide +kernel
theorem dX7_asksForJob_144 : decode cX7_asksForJob 144 = .ok (.ifCond .eq 9, 3) := by decide +kernel
theorem dX7_asksForJob_147 : decode cX7_asksForJob 147 = .ok (.iinc 2 1, 3) := by decide +kernel
theorem dX7_asksForJob_150 : decode cX7_asksForJob 150 = .ok (.goto (-20), 3) := by decide +kernel
theorem dX7_asksForJob_153 : decode cX7_asksForJob 153 = .ok (.iload_n 2, 1) := by decide +kernel
theorem dX7_asksForJob_154 : decode cX7_asksForJob 154 = .ok (.aload_n 0, 1) := by decide +kernel
theorem dX7_asksForJob_155 : decode cX7_asksForJob 155 = .ok (.getfield 176, 3) := by decide +kernel
theorem dX7_asksForJob_158 : decode cX7_asksForJob 158 = .ok (.if_icmp .ne 4, 3) := by decide +kernel
theorem dX7_asksForJob_161 : decode cX7_asksForJob 161 = .ok (.return_, 1) := by decide +kernel
theorem dX7_asksForJob_162 : decode cX7_asksForJob 162 = .ok (.aload_n 0, 1) := by decide +kernel
theorem dX7_asksForJob_163 : decode cX7_asksForJob 163 = .ok (.aload_n 0, 1) := by decide +kernel
theorem dX7_asksForJob_164 : decode cX7_asksForJob 164 = .ok (.getfield 66, 3) := by decide +kernel
theorem dX7_asksForJob_167 : decode cX7_asksForJob 167 = .ok (.iload_n 2, 1) := by decide +kernel
theorem dX7_asksForJob_168 : decode cX7_asksForJob 168 = .ok (.iaload, 1) := by decide +kernel
theorem dX7_asksForJob_169 : decode cX7_asksForJob 169 = .ok (.invokevirtual 216, 3) := by decide +kernel
theorem dX7_asksForJob_172 : decode cX7_asksForJob 172 = .ok (.istore_n 3, 1) := by decide +kernel
theorem dX7_asksForJob_173 : decode cX7_asksForJob 173 = .ok (.iload_n 3, 1) := by decide +kernel
theorem dX7_asksForJob_174 : decode cX7_asksForJob 174 = .ok (.iconst (-1), 1) := by decide +kernel
theorem dX7_asksForJob_175 : decode cX7_asksForJob 175 = .ok (.if_icmp .eq 43, 3) := by decide +kernel
theorem dX7_asksForJob_178 : decode cX7_asksForJob 178 = .ok (.aload_n 0, 1) := by decide +kernel
theorem dX7_asksForJob_179 : decode cX7_asksForJob 179 = .ok (.iload_n 1, 1) := by decide +kernel
theorem dX7_asksForJob_180 : decode cX7_asksForJob 180 = .ok (.aload_n 0, 1) := by decide +kernel
theorem dX7_asksForJob_181 : decode cX7_asksForJob 181 = .ok (.getfield 7, 3) := by decide +kernel
theorem dX7_asksForJob_184 : decode cX7_asksForJob 184 = .ok (.iload_n 3, 1) := by decide +kernel
theorem dX7_asksForJob_185 : decode cX7_asksForJob 185 = .ok (.iaload, 1) := by decide +kernel
theorem dX7_asksForJob_186 : decode cX7_asksForJob 186 = .ok (.aload_n 0, 1) := by decide +kernel
theorem dX7_asksForJob_187 : decode cX7_asksForJob 187 = .ok (.getfield 66, 3) := by decide +kernel
theorem dX7_asksForJob_190 : decode cX7_asksForJob 190 = .ok (.iload_n 2, 1) := by decide +kernel
theorem dX7_asksForJob_191 : decode cX7_asksForJob 191 = .ok (.iaload, 1) := by decide +kernel
theorem dX7_asksForJob_192 : decode cX7_asksForJob 192 = .ok (.invokevirtual 209, 3) := by decide +kernel
theorem dX7_asksForJob_195 : decode cX7_asksForJob 195 = .ok (.ifCond .eq 23, 3) := by decide +kernel
theorem dX7_asksForJob_198 : decode cX7_asksForJob 198 = .ok (.aload_n 0, 1) := by decide +kernel
theorem dX7_asksForJob_199 : decode cX7_asksForJob 199 = .ok (.iload_n 1, 1) := by decide +kernel
theorem dX7_asksForJob_200 : decode cX7_asksForJob 200 = .ok (.iload_n 3, 1) := by decide +kernel
theorem dX7_asksForJob_201 : decode cX7_asksForJob 201 = .ok (.aload_n 0, 1) := by decide +kernel
theorem dX7_asksForJob_202 : decode cX7_asksForJob 202 = .ok (.getfield 7, 3) := by decide +kernel
theorem dX7_asksForJob_205 : decode cX7_asksForJob 205 = .ok (.iload_n 3, 1) := by decide +kernel
theorem dX7_asksForJob_206 : decode cX7_asksForJob 206 = .ok (.iaload, 1) := by decide +kernel
theorem dX7_asksForJob_207 : decode cX7_asksForJob 207 = .ok (.aload_n 0, 1) := by decide +kernel
theorem dX7_asksForJob_208 : decode cX7_asksForJob 208 = .ok (.getfield 66, 3) := by decide +kernel
theorem dX7_asksForJob_211 : decode cX7_asksForJob 211 = .ok (.iload_n 2, 1) := by decide +kernel
theorem dX7_asksForJob_212 : decode cX7_asksForJob 212 = .ok (.iaload, 1) := by decide +kernel
theorem dX7_asksForJob_213 : decode cX7_asksForJob 213 = .ok (.iload_n 2, 1) := by decide +kernel
theorem dX7_asksForJob_214 : decode cX7_asksForJob 214 = .ok (.iconst 1, 1) := by decide +kernel
theorem dX7_asksForJob_215 : decode cX7_asksForJob 215 = .ok (.invokevirtual 212, 3) := by decide +kernel
theorem dX7_asksForJob_218 : decode cX7_asksForJob 218 = .ok (.return_, 1) := by decide +kernel
theorem dX7_isAtHome_0 : decode cX7_isAtHome 0 = .ok (.aload_n 0, 1) := by decide +kernel
theorem dX7_isAtHome_1 : decode cX7_isAtHome 1 = .ok (.getfield 22, 3) := by decide +kernel
theorem dX7_isAtHome_4 : decode cX7_isAtHome 4 = .ok (.iload_n 1, 1) := by decide +kernel
theorem dX7_isAtHome_5 : decode cX7_isAtHome 5 = .ok (.iaload, 1) := by decide +kernel
theorem dX7_isAtHome_6 : decode cX7_isAtHome 6 = .ok (.ifCond .ne 15, 3) := by decide +kernel
theorem dX7_isAtHome_9 : decode cX7_isAtHome 9 = .ok (.aload_n 0, 1) := by decide +kernel
theorem dX7_isAtHome_10 : decode cX7_isAtHome 10 = .ok (.iload_n 1, 1) := by decide +kernel
theorem dX7_isAtHome_11 : decode cX7_isAtHome 11 = .ok (.invokevirtual 206, 3) := by decide +kernel
theorem dX7_isAtHome_14 : decode cX7_isAtHome 14 = .ok (.ifCond .ne 7, 3) := by decide +kernel
theorem dX7_isAtHome_17 : decode cX7_isAtHome 17 = .ok (.iconst 1, 1) := by decide +kernel
theorem dX7_isAtHome_18 : decode cX7_isAtHome 18 = .ok (.goto 4, 3) := by decide +kernel
theorem dX7_isAtHome_21 : decode cX7_isAtHome 21 = .ok (.iconst 0, 1) := by decide +kernel
theorem dX7_isAtHome_22 : decode cX7_isAtHome 22 = .ok (.ireturn, 1) := by decide +kernel
theorem dX7_worth_0 : decode cX7_worth 0 = .ok (.aload_n 0, 1) := by decide +kernel
theorem dX7_worth_1 : decode cX7_worth 1 = .ok (.getfield 7, 3) := by decide +kernel
theorem dX7_worth_4 : decode cX7_worth 4 = .ok (.iload_n 1, 1) := by decide +kernel
theorem dX7_worth_5 : decode cX7_worth 5 = .ok (.iaload, 1) := by decide +kernel
theorem dX7_worth_6 : decode cX7_worth 6 = .ok (.iload_n 2, 1) := by decide +kernel
theorem dX7_worth_7 : decode cX7_worth 7 = .ok (.if_icmp .le 14, 3) := by decide +kernel
theorem dX7_worth_10 : decode cX7_worth 10 = .ok (.aload_n 0, 1) := by decide +kernel
theorem dX7_worth_11 : decode cX7_worth 11 = .ok (.getfield 7, 3) := by decide +kernel
theorem dX7_worth_14 : decode cX7_worth 14 = .ok (.iload_n 1, 1) := by decide +kernel
theorem dX7_worth_15 : decode cX7_worth 15 = .ok (.iaload, 1) := by decide +kernel
theorem dX7_worth_16 : decode cX7_worth 16 = .ok (.iload_n 2, 1) := by decide +kernel
theorem dX7_worth_17 : decode cX7_worth 17 = .ok (.isub, 1) := by decide +kernel
theorem dX7_worth_18 : decode cX7_worth 18 = .ok (.goto 11, 3) := by decide +kernel
theorem dX7_worth_21 : decode cX7_worth 21 = .ok (.iload_n 2, 1) := by decide +kernel
theorem dX7_worth_22 : decode cX7_worth 22 = .ok (.aload_n 0, 1) := by decide +kernel
theorem dX7_worth_23 : decode cX7_worth 23 = .ok (.getfield 7, 3) := by decide +kernel
theorem dX7_worth_26 : decode cX7_worth 26 = .ok (.iload_n 1, 1) := by decide +kernel
theorem dX7_worth_27 : decode cX7_worth 27 = .ok (.iaload, 1) := by decide +kernel
theorem dX7_worth_28 : decode cX7_worth 28 = .ok (.isub, 1) := by decide +kernel
theorem dX7_worth_29 : decode cX7_worth 29 = .ok (.istore_n 3, 1) := by decide +kernel
theorem dX7_worth_30 : decode cX7_worth 30 = .ok (.bipush (-2), 2) := by decide +kernel
theorem dX7_worth_32 : decode cX7_worth 32 = .ok (.iload_n 3, 1) := by decide +kernel
theorem dX7_worth_33 : decode cX7_worth 33 = .ok (.imul, 1) := by decide +kernel
theorem dX7_worth_34 : decode cX7_worth 34 = .ok (.istore 4, 2) := by decide +kernel
theorem dX7_worth_36 : decode cX7_worth 36 = .ok (.iconst 0, 1) := by decide +kernel
theorem dX7_worth_37 : decode cX7_worth 37 = .ok (.istore 5, 2) := by decide +kernel
theorem dX7_worth_39 : decode cX7_worth 39 = .ok (.iload 5, 2) := by decide +kernel
theorem dX7_worth_41 : decode cX7_worth 41 = .ok (.aload_n 0, 1) := by decide +kernel
theorem dX7_worth_42 : decode cX7_worth 42 = .ok (.getfield 138, 3) := by decide +kernel
theorem dX7_worth_45 : decode cX7_worth 45 = .ok (.if_icmp .ge 77, 3) := by decide +kernel
theorem dX7_worth_48 : decode cX7_worth 48 = .ok (.aload_n 0, 1) := by decide +kernel
theorem dX7_worth_49 : decode cX7_worth 49 = .ok (.getfield 36, 3) := by decide +kernel
theorem dX7_worth_52 : decode cX7_worth 52 = .ok (.iload 5, 2) := by decide +kernel
theorem dX7_worth_54 : decode cX7_worth 54 = .ok (.iaload, 1) := by decide +kernel
theorem dX7_worth_55 : decode cX7_worth 55 = .ok (.iload_n 1, 1) := by decide +kernel
theorem dX7_worth_56 : decode cX7_worth 56 = .ok (.if_icmp .ne 60, 3) := by decide +kernel
theorem dX7_worth_59 : decode cX7_worth 59 = .ok (.aload_n 0, 1) := by decide +kernel
theorem dX7_worth_60 : decode cX7_worth 60 = .ok (.getfield 48, 3) := by decide +kernel
theorem dX7_worth_63 : decode cX7_worth 63 = .ok (.iload 5, 2) := by decide +kernel
theorem dX7_worth_65 : decode cX7_worth 65 = .ok (.iaload, 1) := by decide +kernel
theorem dX7_worth_66 : decode cX7_worth 66 = .ok (.ifCond .ne 50, 3) := by decide +kernel
theorem dX7_worth_69 : decode cX7_worth 69 = .ok (.aload_n 0, 1) := by decide +kernel
theorem dX7_worth_70 : decode cX7_worth 70 = .ok (.getfield 33, 3) := by decide +kernel
theorem dX7_worth_73 : decode cX7_worth 73 = .ok (.iload 5, 2) := by decide +kernel
theorem dX7_worth_75 : decode cX7_worth 75 = .ok (.iaload, 1) := by decide +kernel
theorem dX7_worth_76 : decode cX7_worth 76 = .ok (.iconst 3, 1) := by decide +kernel
theorem dX7_worth_77 : decode cX7_worth 77 = .ok (.if_icmp .eq 39, 3) := by decide +kernel
theorem dX7_worth_80 : decode cX7_worth 80 = .ok (.iload 4, 2) := by decide +kernel
theorem dX7_worth_82 : decode cX7_worth 82 = .ok (.aload_n 0, 1) := by decide +kernel
theorem dX7_worth_83 : decode cX7_worth 83 = .ok (.getfield 141, 3) := by decide +kernel
theorem dX7_worth_86 : decode cX7_worth 86 = .ok (.aload_n 0, 1) := by decide +kernel
theorem dX7_worth_87 : decode cX7_worth 87 = .ok (.getfield 45, 3) := by decide +kernel
theorem dX7_worth_90 : decode cX7_worth 90 = .ok (.iload 5, 2) := by decide +kernel
theorem dX7_worth_92 : decode cX7_worth 92 = .ok (.iaload, 1) := by decide +kernel
theorem dX7_worth_93 : decode cX7_worth 93 = .ok (.isub, 1) := by decide +kernel
theorem dX7_worth_94 : decode cX7_worth 94 = .ok (.aload_n 0, 1) := by decide +kernel
theorem dX7_worth_95 : decode cX7_worth 95 = .ok (.getfield 33, 3) := by decide +kernel
theorem dX7_worth_98 : decode cX7_worth 98 = .ok (.iload 5, 2) := by decide +kernel
theorem dX7_worth_100 : decode cX7_worth 100 = .ok (.iaload, 1) := by decide +kernel
theorem dX7_worth_101 : decode cX7_worth 101 = .ok (.iconst 4, 1) := by decide +kernel
theorem dX7_worth_102 : decode cX7_worth 102 = .ok (.if_icmp .ne 8, 3) := by decide +kernel
theorem dX7_worth_105 : decode cX7_worth 105 = .ok (.bipush 100, 2) := by decide +kernel
theorem dX7_worth_107 : decode cX7_worth 107 = .ok (.goto 5, 3) := by decide +kernel
theorem dX7_worth_110 : decode cX7_worth 110 = .ok (.bipush 10, 2) := by decide +kernel
theorem dX7_worth_112 : decode cX7_worth 112 = .ok (.iadd, 1) := by decide +kernel
theorem dX7_worth_113 : decode cX7_worth 113 = .ok (.iadd, 1) := by decide +kernel
theorem dX7_worth_114 : decode cX7_worth 114 = .ok (.istore 4, 2) := by decide +kernel
theorem dX7_worth_116 : decode cX7_worth 116 = .ok (.iinc 5 1, 3) := by decide +kernel
theorem dX7_worth_119 : decode cX7_worth 119 = .ok (.goto (-80), 3) := by decide +kernel
theorem dX7_worth_122 : decode cX7_worth 122 = .ok (.iload 4, 2) := by decide +kernel
theorem dX7_worth_124 : decode cX7_worth 124 = .ok (.ireturn, 1) := by decide +kernel
theorem dX7_chosen_0 : decode cX7_chosen 0 = .ok (.iconst 0, 1) := by decide +kernel
theorem dX7_chosen_1 : decode cX7_chosen 1 = .ok (.istore_n 2, 1) := by decide +kernel
theorem dX7_chosen_2 : decode cX7_chosen 2 = .ok (.iconst (-1), 1) := by decide +kernel
theorem dX7_chosen_3 : decode cX7_chosen 3 = .ok (.istore_n 3, 1) := by decide +kernel
theorem dX7_chosen_4 : decode cX7_chosen 4 = .ok (.iconst (-1), 1) := by decide +kernel
theorem dX7_chosen_5 : decode cX7_chosen 5 = .ok (.istore 4, 2) := by decide +kernel
theorem dX7_chosen_7 : decode cX7_chosen 7 = .ok (.iconst 0, 1) := by decide +kernel
theorem dX7_chosen_8 : decode cX7_chosen 8 = .ok (.istore 5, 2) := by decide +kernel
theorem dX7_chosen_10 : decode cX7_chosen 10 = .ok (.iconst 0, 1) := by decide +kernel
theorem dX7_chosen_11 : decode cX7_chosen 11 = .ok (.istore 6, 2) := by decide +kernel
theorem dX7_chosen_13 : decode cX7_chosen 13 = .ok (.iload 6, 2) := by decide +kernel
theorem dX7_chosen_15 : decode cX7_chosen 15 = .ok (.aload_n 0, 1) := by decide +kernel
theorem dX7_chosen_16 : decode cX7_chosen 16 = .ok (.getfield 138, 3) := by decide +kernel
theorem dX7_chosen_19 : decode cX7_chosen 19 = .ok (.if_icmp .ge 168, 3) := by decide +kernel
theorem dX7_chosen_22 : decode cX7_chosen 22 = .ok (.aload_n 0, 1) := by decide +kernel
theorem dX7_chosen_23 : decode cX7_chosen 23 = .ok (.getfield 48, 3) := by decide +kernel
theorem dX7_chosen_26 : decode cX7_chosen 26 = .ok (.iload 6, 2) := by decide +kernel
theorem dX7_chosen_28 : decode cX7_chosen 28 = .ok (.iaload, 1) := by decide +kernel
theorem dX7_chosen_29 : decode cX7_chosen 29 = .ok (.ifCond .eq 6, 3) := by decide +kernel
theorem dX7_chosen_32 : decode cX7_chosen 32 = .ok (.goto 149, 3) := by decide +kernel
theorem dX7_chosen_35 : decode cX7_chosen 35 = .ok (.aload_n 0, 1) := by decide +kernel
theorem dX7_chosen_36 : decode cX7_chosen 36 = .ok (.getfield 36, 3) := by decide +kernel
theorem dX7_chosen_39 : decode cX7_chosen 39 = .ok (.iload 6, 2) := by decide +kernel
theorem dX7_chosen_41 : decode cX7_chosen 41 = .ok (.iaload, 1) := by decide +kernel
theorem dX7_chosen_42 : decode cX7_chosen 42 = .ok (.istore 7, 2) := by decide +kernel
theorem dX7_chosen_44 : decode cX7_chosen 44 = .ok (.iload_n 2, 1) := by decide +kernel
theorem dX7_chosen_45 : decode cX7_chosen 45 = .ok (.ifCond .ne 14, 3) := by decide +kernel
theorem dX7_chosen_48 : decode cX7_chosen 48 = .ok (.aload_n 0, 1) := by decide +kernel
theorem dX7_chosen_49 : decode cX7_chosen 49 = .ok (.getfield 33, 3) := by decide +kernel
theorem dX7_chosen_52 : decode cX7_chosen 52 = .ok (.iload 6, 2) := by decide +kernel
theorem dX7_chosen_54 : decode cX7_chosen 54 = .ok (.iaload, 1) := by decide +kernel
theorem dX7_chosen_55 : decode cX7_chosen 55 = .ok (.iconst 3, 1) := by decide +kernel
theorem dX7_chosen_56 : decode cX7_chosen 56 = .ok (.if_icmp .eq 7, 3) := by decide +kernel
theorem dX7_chosen_59 : decode cX7_chosen 59 = .ok (.iconst 1, 1) := by decide +kernel
theorem dX7_chosen_60 : decode cX7_chosen 60 = .ok (.goto 4, 3) := by decide +kernel
theorem dX7_chosen_63 : decode cX7_chosen 63 = .ok (.iconst 0, 1) := by decide +kernel
theorem dX7_chosen_64 : decode cX7_chosen 64 = .ok (.istore_n 2, 1) := by decide +kernel
theorem dX7_chosen_65 : decode cX7_chosen 65 = .ok (.aload_n 0, 1) := by decide +kernel
theorem dX7_chosen_66 : decode cX7_chosen 66 = .ok (.iload 7, 2) := by decide +kernel
theorem dX7_chosen_68 : decode cX7_chosen 68 = .ok (.invokevirtual 219, 3) := by decide +kernel
theorem dX7_chosen_71 : decode cX7_chosen 71 = .ok (.ifCond .ne 6, 3) := by decide +kernel
theorem dX7_chosen_74 : decode cX7_chosen 74 = .ok (.goto 107, 3) := by decide +kernel
theorem dX7_chosen_77 : decode cX7_chosen 77 = .ok (.aload_n 0, 1) := by decide +kernel
theorem dX7_chosen_78 : decode cX7_chosen 78 = .ok (.getfield 33, 3) := by decide +kernel
theorem dX7_chosen_81 : decode cX7_chosen 81 = .ok (.iload 6, 2) := by decide +kernel
theorem dX7_chosen_83 : decode cX7_chosen 83 = .ok (.iaload, 1) := by decide +kernel
theorem dX7_chosen_84 : decode cX7_chosen 84 = .ok (.iconst 3, 1) := by decide +kernel
theorem dX7_chosen_85 : decode cX7_chosen 85 = .ok (.if_icmp .ne 30, 3) := by decide +kernel
theorem dX7_chosen_88 : decode cX7_chosen 88 = .ok (.iload_n 3, 1) := by decide +kernel
theorem dX7_chosen_89 : decode cX7_chosen 89 = .ok (.iconst (-1), 1) := by decide +kernel
theorem dX7_chosen_90 : decode cX7_chosen 90 = .ok (.if_icmp .eq 19, 3) := by decide +kernel
theorem dX7_chosen_93 : decode cX7_chosen 93 = .ok (.aload_n 0, 1) := by decide +kernel
theorem dX7_chosen_94 : decode cX7_chosen 94 = .ok (.getfield 39, 3) := by decide +kernel
theorem dX7_chosen_97 : decode cX7_chosen 97 = .ok (.iload 6, 2) := by decide +kernel
theorem dX7_chosen_99 : decode cX7_chosen 99 = .ok (.iaload, 1) := by decide +kernel
theorem dX7_chosen_100 : decode cX7_chosen 100 = .ok (.aload_n 0, 1) := by decide +kernel
theorem dX7_chosen_101 : decode cX7_chosen 101 = .ok (.getfield 39, 3) := by decide +kernel
theorem dX7_chosen_104 : decode cX7_chosen 104 = .ok (.iload_n 3, 1) := by decide +kernel
theorem dX7_chosen_105 : decode cX7_chosen 105 = .ok (.iaload, 1) := by decide +kernel
theorem dX7_chosen_106 : decode cX7_chosen 106 = .ok (.if_icmp .ge 75, 3) := by decide +kernel
theorem dX7_chosen_109 : decode cX7_chosen 109 = .ok (.iload 6, 2) := by decide +kernel
theorem dX7_chosen_111 : decode cX7_chosen 111 = .ok (.istore_n 3, 1) := by decide +kernel
theorem dX7_chosen_112 : decode cX7_chosen 112 = .ok (.goto 69, 3) := by decide +kernel
theorem dX7_chosen_115 : decode cX7_chosen 115 = .ok (.aload_n 0, 1) := by decide +kernel
theorem dX7_chosen_116 : decode cX7_chosen 116 = .ok (.getfield 141, 3) := by decide +kernel
theorem dX7_chosen_119 : decode cX7_chosen 119 = .ok (.aload_n 0, 1) := by decide +kernel
theorem dX7_chosen_120 : decode cX7_chosen 120 = .ok (.getfield 45, 3) := by decide +kernel
theorem dX7_chosen_123 : decode cX7_chosen 123 = .ok (.iload 6, 2) := by decide +kernel
theorem dX7_chosen_125 : decode cX7_chosen 125 = .ok (.iaload, 1) := by decide +kernel
theorem dX7_chosen_126 : decode cX7_chosen 126 = .ok (.isub, 1) := by decide +kernel
theorem dX7_chosen_127 : decode cX7_chosen 127 = .ok (.aload_n 0, 1) := by decide +kernel
theorem dX7_chosen_128 : decode cX7_chosen 128 = .ok (.getfield 29, 3) := by decide +kernel
theorem dX7_chosen_131 : decode cX7_chosen 131 = .ok (.if_icmp .lt 6, 3) := by decide +kernel
theorem dX7_chosen_134 : decode cX7_chosen 134 = .ok (.iload 7, 2) := by decide +kernel
theorem dX7_chosen_136 : decode cX7_chosen 136 = .ok (.ireturn, 1) := by decide +kernel
theorem dX7_chosen_137 : decode cX7_chosen 137 = .ok (.aload_n 0, 1) := by decide +kernel
theorem dX7_chosen_138 : decode cX7_chosen 138 = .ok (.iload 7, 2) := by decide +kernel
theorem dX7_chosen_140 : decode cX7_chosen 140 = .ok (.iload_n 1, 1) := by decide +kernel
theorem dX7_chosen_141 : decode cX7_chosen 141 = .ok (.invokevirtual 222, 3) := by decide +kernel
theorem dX7_chosen_144 : decode cX7_chosen 144 = .ok (.istore 8, 2) := by decide +kernel
theorem dX7_chosen_146 : decode cX7_chosen 146 = .ok (.iload 4, 2) := by decide +kernel
theorem dX7_chosen_148 : decode cX7_chosen 148 = .ok (.iconst (-1), 1) := by decide +kernel
theorem dX7_chosen_149 : decode cX7_chosen 149 = .ok (.if_icmp .eq 24, 3) := by decide +kernel
theorem dX7_chosen_152 : decode cX7_chosen 152 = .ok (.iload 8, 2) := by decide +kernel
theorem dX7_chosen_154 : decode cX7_chosen 154 = .ok (.iload 5, 2) := by decide +kernel
theorem dX7_chosen_156 : decode cX7_chosen 156 = .ok (.if_icmp .gt 17, 3) := by decide +kernel
theorem dX7_chosen_159 : decode cX7_chosen 159 = .ok (.iload 8, 2) := by decide +kernel
theorem dX7_chosen_161 : decode cX7_chosen 161 = .ok (.iload 5, 2) := by decide +kernel
theorem dX7_chosen_163 : decode cX7_chosen 163 = .ok (.if_icmp .ne 18, 3) := by decide +kernel
theorem dX7_chosen_166 : decode cX7_chosen 166 = .ok (.iload 7, 2) := by decide +kernel
theorem dX7_chosen_168 : decode cX7_chosen 168 = .ok (.iload 4, 2) := by decide +kernel
theorem dX7_chosen_170 : decode cX7_chosen 170 = .ok (.if_icmp .ge 11, 3) := by decide +kernel
theorem dX7_chosen_173 : decode cX7_chosen 173 = .ok (.iload 7, 2) := by decide +kernel
theorem dX7_chosen_175 : decode cX7_chosen 175 = .ok (.istore 4, 2) := by decide +kernel
theorem dX7_chosen_177 : decode cX7_chosen 177 = .ok (.iload 8, 2) := by decide +kernel
theorem dX7_chosen_179 : decode cX7_chosen 179 = .ok (.istore 5, 2) := by decide +kernel
theorem dX7_chosen_181 : decode cX7_chosen 181 = .ok (.iinc 6 1, 3) := by decide +kernel
theorem dX7_chosen_184 : decode cX7_chosen 184 = .ok (.goto (-171), 3) := by decide +kernel
theorem dX7_chosen_187 : decode cX7_chosen 187 = .ok (.iload 4, 2) := by decide +kernel
theorem dX7_chosen_189 : decode cX7_chosen 189 = .ok (.iconst (-1), 1) := by decide +kernel
theorem dX7_chosen_190 : decode cX7_chosen 190 = .ok (.if_icmp .eq 15, 3) := by decide +kernel
theorem dX7_chosen_193 : decode cX7_chosen 193 = .ok (.iload 5, 2) := by decide +kernel
theorem dX7_chosen_195 : decode cX7_chosen 195 = .ok (.aload_n 0, 1) := by decide +kernel
theorem dX7_chosen_196 : decode cX7_chosen 196 = .ok (.getfield 135, 3) := by decide +kernel
theorem dX7_chosen_199 : decode cX7_chosen 199 = .ok (.if_icmp .lt 6, 3) := by decide +kernel
theorem dX7_chosen_202 : decode cX7_chosen 202 = .ok (.iload 4, 2) := by decide +kernel
theorem dX7_chosen_204 : decode cX7_chosen 204 = .ok (.ireturn, 1) := by decide +kernel
theorem dX7_chosen_205 : decode cX7_chosen 205 = .ok (.iload_n 3, 1) := by decide +kernel
theorem dX7_chosen_206 : decode cX7_chosen 206 = .ok (.iconst (-1), 1) := by decide +kernel
theorem dX7_chosen_207 : decode cX7_chosen 207 = .ok (.if_icmp .eq 36, 3) := by decide +kernel
theorem dX7_chosen_210 : decode cX7_chosen 210 = .ok (.iload_n 2, 1) := by decide +kernel
theorem dX7_chosen_211 : decode cX7_chosen 211 = .ok (.ifCond .eq 23, 3) := by decide +kernel
theorem dX7_chosen_214 : decode cX7_chosen 214 = .ok (.aload_n 0, 1) := by decide +kernel
theorem dX7_chosen_215 : decode cX7_chosen 215 = .ok (.getfield 39, 3) := by decide +kernel
theorem dX7_chosen_218 : decode cX7_chosen 218 = .ok (.iload_n 3, 1) := by decide +kernel
theorem dX7_chosen_219 : decode cX7_chosen 219 = .ok (.iaload, 1) := by decide +kernel
theorem dX7_chosen_220 : decode cX7_chosen 220 = .ok (.i2l, 1) := by decide +kernel
theorem dX7_chosen_221 : decode cX7_chosen 221 = .ok (.aload_n 0, 1) := by decide +kernel
theorem dX7_chosen_222 : decode cX7_chosen 222 = .ok (.getfield 141, 3) := by decide +kernel
theorem dX7_chosen_225 : decode cX7_chosen 225 = .ok (.i2l, 1) := by decide +kernel
theorem dX7_chosen_226 : decode cX7_chosen 226 = .ok (.ldc2_w 225, 3) := by decide +kernel
theorem dX7_chosen_229 : decode cX7_chosen 229 = .ok (.ladd, 1) := by decide +kernel
theorem dX7_chosen_230 : decode cX7_chosen 230 = .ok (.lcmp, 1) := by decide +kernel
theorem dX7_chosen_231 : decode cX7_chosen 231 = .ok (.ifCond .gt 12, 3) := by decide +kernel
theorem dX7_chosen_234 : decode cX7_chosen 234 = .ok (.aload_n 0, 1) := by decide +kernel
theorem dX7_chosen_235 : decode cX7_chosen 235 = .ok (.getfield 36, 3) := by decide +kernel
theorem dX7_chosen_238 : decode cX7_chosen 238 = .ok (.iload_n 3, 1) := by decide +kernel
theorem dX7_chosen_239 : decode cX7_chosen 239 = .ok (.iaload, 1) := by decide +kernel
theorem dX7_chosen_240 : decode cX7_chosen 240 = .ok (.goto 4, 3) := by decide +kernel
theorem dX7_chosen_243 : decode cX7_chosen 243 = .ok (.iconst (-1), 1) := by decide +kernel
theorem dX7_chosen_244 : decode cX7_chosen 244 = .ok (.ireturn, 1) := by decide +kernel
theorem dX7_tick_0 : decode cX7_tick 0 = .ok (.aload_n 0, 1) := by decide +kernel
theorem dX7_tick_1 : decode cX7_tick 1 = .ok (.iconst 0, 1) := by decide +kernel
theorem dX7_tick_2 : decode cX7_tick 2 = .ok (.putfield 121, 3) := by decide +kernel
theorem dX7_tick_5 : decode cX7_tick 5 = .ok (.iload_n 1, 1) := by decide +kernel
theorem dX7_tick_6 : decode cX7_tick 6 = .ok (.iconst 1, 1) := by decide +kernel
theorem dX7_tick_7 : decode cX7_tick 7 = .ok (.sipush 400, 3) := by decide +kernel
theorem dX7_tick_10 : decode cX7_tick 10 = .ok (.invokestatic 127, 3) := by decide +kernel
theorem dX7_tick_13 : decode cX7_tick 13 = .ok (.ifCond .ne 5, 3) := by decide +kernel
theorem dX7_tick_16 : decode cX7_tick 16 = .ok (.iconst (-1), 1) := by decide +kernel
theorem dX7_tick_17 : decode cX7_tick 17 = .ok (.ireturn, 1) := by decide +kernel
theorem dX7_tick_18 : decode cX7_tick 18 = .ok (.iconst 0, 1) := by decide +kernel
theorem dX7_tick_19 : decode cX7_tick 19 = .ok (.istore_n 2, 1) := by decide +kernel
theorem dX7_tick_20 : decode cX7_tick 20 = .ok (.iconst 0, 1) := by decide +kernel
theorem dX7_tick_21 : decode cX7_tick 21 = .ok (.istore_n 3, 1) := by decide +kernel
theorem dX7_tick_22 : decode cX7_tick 22 = .ok (.iload_n 3, 1) := by decide +kernel
theorem dX7_tick_23 : decode cX7_tick 23 = .ok (.iload_n 1, 1) := by decide +kernel
theorem dX7_tick_24 : decode cX7_tick 24 = .ok (.if_icmp .ge 121, 3) := by decide +kernel
theorem dX7_tick_27 : decode cX7_tick 27 = .ok (.iconst 0, 1) := by decide +kernel
theorem dX7_tick_28 : decode cX7_tick 28 = .ok (.istore 4, 2) := by decide +kernel
theorem dX7_tick_30 : decode cX7_tick 30 = .ok (.iload 4, 2) := by decide +kernel
theorem dX7_tick_32 : decode cX7_tick 32 = .ok (.iconst 2, 1) := by decide +kernel
theorem dX7_tick_33 : decode cX7_tick 33 = .ok (.if_icmp .ge 26, 3) := by decide +kernel
theorem dX7_tick_36 : decode cX7_tick 36 = .ok (.aload_n 0, 1) := by decide +kernel
theorem dX7_tick_37 : decode cX7_tick 37 = .ok (.getfield 90, 3) := by decide +kernel
theorem dX7_tick_40 : decode cX7_tick 40 = .ok (.iload 4, 2) := by decide +kernel
theorem dX7_tick_42 : decode cX7_tick 42 = .ok (.iaload, 1) := by decide +kernel
theorem dX7_tick_43 : decode cX7_tick 43 = .ok (.iconst (-1), 1) := by decide +kernel
theorem dX7_tick_44 : decode cX7_tick 44 = .ok (.if_icmp .eq 9, 3) := by decide +kernel
theorem dX7_tick_47 : decode cX7_tick 47 = .ok (.aload_n 0, 1) := by decide +kernel
theorem dX7_tick_48 : decode cX7_tick 48 = .ok (.iload 4, 2) := by decide +kernel
theorem dX7_tick_50 : decode cX7_tick 50 = .ok (.invokevirtual 227, 3) := by decide +kernel
theorem dX7_tick_53 : decode cX7_tick 53 = .ok (.iinc 4 1, 3) := by decide +kernel
theorem dX7_tick_56 : decode cX7_tick 56 = .ok (.goto (-26), 3) := by decide +kernel
theorem dX7_tick_59 : decode cX7_tick 59 = .ok (.iconst 0, 1) := by decide +kernel
theorem dX7_tick_60 : decode cX7_tick 60 = .ok (.istore 4, 2) := by decide +kernel
theorem dX7_tick_62 : decode cX7_tick 62 = .ok (.iload 4, 2) := by decide +kernel
theorem dX7_tick_64 : decode cX7_tick 64 = .ok (.aload_n 0, 1) := by decide +kernel
theorem dX7_tick_65 : decode cX7_tick 65 = .ok (.getfield 176, 3) := by decide +kernel
theorem dX7_tick_68 : decode cX7_tick 68 = .ok (.if_icmp .ge 29, 3) := by decide +kernel
theorem dX7_tick_71 : decode cX7_tick 71 = .ok (.aload_n 0, 1) := by decide +kernel
theorem dX7_tick_72 : decode cX7_tick 72 = .ok (.getfield 69, 3) := by decide +kernel
theorem dX7_tick_75 : decode cX7_tick 75 = .ok (.iload 4, 2) := by decide +kernel
theorem dX7_tick_77 : decode cX7_tick 77 = .ok (.iaload, 1) := by decide +kernel
theorem dX7_tick_78 : decode cX7_tick 78 = .ok (.iconst 2, 1) := by decide +kernel
theorem dX7_tick_79 : decode cX7_tick 79 = .ok (.if_icmp .ne 12, 3) := by decide +kernel
theorem dX7_tick_82 : decode cX7_tick 82 = .ok (.iload_n 2, 1) := by decide +kernel
theorem dX7_tick_83 : decode cX7_tick 83 = .ok (.aload_n 0, 1) := by decide +kernel
theorem dX7_tick_84 : decode cX7_tick 84 = .ok (.iload 4, 2) := by decide +kernel
theorem dX7_tick_86 : decode cX7_tick 86 = .ok (.invokevirtual 230, 3) := by decide +kernel
theorem dX7_tick_89 : decode cX7_tick 89 = .ok (.iadd, 1) := by decide +kernel
theorem dX7_tick_90 : decode cX7_tick 90 = .ok (.istore_n 2, 1) := by decide +kernel
theorem dX7_tick_91 : decode cX7_tick 91 = .ok (.iinc 4 1, 3) := by decide +kernel
theorem dX7_tick_94 : decode cX7_tick 94 = .ok (.goto (-32), 3) := by decide +kernel
theorem dX7_tick_97 : decode cX7_tick 97 = .ok (.iconst 0, 1) := by decide +kernel
theorem dX7_tick_98 : decode cX7_tick 98 = .ok (.istore 4, 2) := by decide +kernel
theorem dX7_tick_100 : decode cX7_tick 100 = .ok (.iload 4, 2) := by decide +kernel
theorem dX7_tick_102 : decode cX7_tick 102 = .ok (.iconst 2, 1) := by decide +kernel
theorem dX7_tick_103 : decode cX7_tick 103 = .ok (.if_icmp .ge 26, 3) := by decide +kernel
theorem dX7_tick_106 : decode cX7_tick 106 = .ok (.aload_n 0, 1) := by decide +kernel
theorem dX7_tick_107 : decode cX7_tick 107 = .ok (.getfield 90, 3) := by decide +kernel
theorem dX7_tick_110 : decode cX7_tick 110 = .ok (.iload 4, 2) := by decide +kernel
theorem dX7_tick_112 : decode cX7_tick 112 = .ok (.iaload, 1) := by decide +kernel
theorem dX7_tick_113 : decode cX7_tick 113 = .ok (.iconst (-1), 1) := by decide +kernel
theorem dX7_tick_114 : decode cX7_tick 114 = .ok (.if_icmp .ne 9, 3) := by decide +kernel
theorem dX7_tick_117 : decode cX7_tick 117 = .ok (.aload_n 0, 1) := by decide +kernel
theorem dX7_tick_118 : decode cX7_tick 118 = .ok (.iload 4, 2) := by decide +kernel
theorem dX7_tick_120 : decode cX7_tick 120 = .ok (.invokevirtual 233, 3) := by decide +kernel
theorem dX7_tick_123 : decode cX7_tick 123 = .ok (.iinc 4 1, 3) := by decide +kernel
theorem dX7_tick_126 : decode cX7_tick 126 = .ok (.goto (-26), 3) := by decide +kernel
theorem dX7_tick_129 : decode cX7_tick 129 = .ok (.aload_n 0, 1) := by decide +kernel
theorem dX7_tick_130 : decode cX7_tick 130 = .ok (.dup, 1) := by decide +kernel
theorem dX7_tick_131 : decode cX7_tick 131 = .ok (.getfield 141, 3) := by decide +kernel
theorem dX7_tick_134 : decode cX7_tick 134 = .ok (.iconst 1, 1) := by decide +kernel
theorem dX7_tick_135 : decode cX7_tick 135 = .ok (.iadd, 1) := by decide +kernel
theorem dX7_tick_136 : decode cX7_tick 136 = .ok (.putfield 141, 3) := by decide +kernel
theorem dX7_tick_139 : decode cX7_tick 139 = .ok (.iinc 3 1, 3) := by decide +kernel
theorem dX7_tick_142 : decode cX7_tick 142 = .ok (.goto (-120), 3) := by decide +kernel
theorem dX7_tick_145 : decode cX7_tick 145 = .ok (.iload_n 2, 1) := by decide +kernel
theorem dX7_tick_146 : decode cX7_tick 146 = .ok (.ireturn, 1) := by decide +kernel
theorem dX7_arm_0 : decode cX7_arm 0 = .ok (.aload_n 0, 1) := by decide +kernel
theorem dX7_arm_1 : decode cX7_arm 1 = .ok (.iconst 0, 1) := by decide +kernel
theorem dX7_arm_2 : decode cX7_arm 2 = .ok (.putfield 121, 3) := by decide +kernel
theorem dX7_arm_5 : decode cX7_arm 5 = .ok (.iload_n 1, 1) := by decide +kernel
theorem dX7_arm_6 : decode cX7_arm 6 = .ok (.iconst 0, 1) := by decide +kernel
theorem dX7_arm_7 : decode cX7_arm 7 = .ok (.iconst 1, 1) := by decide +kernel
theorem dX7_arm_8 : decode cX7_arm 8 = .ok (.invokestatic 127, 3) := by decide +kernel
theorem dX7_arm_11 : decode cX7_arm 11 = .ok (.ifCond .ne 5, 3) := by decide +kernel
theorem dX7_arm_14 : decode cX7_arm 14 = .ok (.iconst (-1), 1) := by decide +kernel
theorem dX7_arm_15 : decode cX7_arm 15 = .ok (.ireturn, 1) := by decide +kernel
theorem dX7_arm_16 : decode cX7_arm 16 = .ok (.iload_n 2, 1) := by decide +kernel
theorem dX7_arm_17 : decode cX7_arm 17 = .ok (.tableswitch 95 0 3 #[31, 38, 67, 74], 31) := by decide +kernel
theorem dX7_arm_48 : decode cX7_arm 48 = .ok (.aload_n 0, 1) := by decide +kernel
theorem dX7_arm_49 : decode cX7_arm 49 = .ok (.getfield 87, 3) := by decide +kernel
theorem dX7_arm_52 : decode cX7_arm 52 = .ok (.iload_n 1, 1) := by decide +kernel
theorem dX7_arm_53 : decode cX7_arm 53 = .ok (.iaload, 1) := by decide +kernel
theorem dX7_arm_54 : decode cX7_arm 54 = .ok (.ireturn, 1) := by decide +kernel
theorem dX7_arm_55 : decode cX7_arm 55 = .ok (.aload_n 0, 1) := by decide +kernel
theorem dX7_arm_56 : decode cX7_arm 56 = .ok (.getfield 90, 3) := by decide +kernel
theorem dX7_arm_59 : decode cX7_arm 59 = .ok (.iload_n 1, 1) := by decide +kernel
theorem dX7_arm_60 : decode cX7_arm 60 = .ok (.iaload, 1) := by decide +kernel
theorem dX7_arm_61 : decode cX7_arm 61 = .ok (.iconst (-1), 1) := by decide +kernel
theorem dX7_arm_62 : decode cX7_arm 62 = .ok (.if_icmp .ne 7, 3) := by decide +kernel
theorem dX7_arm_65 : decode cX7_arm 65 = .ok (.iconst 0, 1) := by decide +kernel
theorem dX7_arm_66 : decode cX7_arm 66 = .ok (.goto 17, 3) := by decide +kernel
theorem dX7_arm_69 : decode cX7_arm 69 = .ok (.aload_n 0, 1) := by decide +kernel
theorem dX7_arm_70 : decode cX7_arm 70 = .ok (.getfield 93, 3) := by decide +kernel
theorem dX7_arm_73 : decode cX7_arm 73 = .ok (.iload_n 1, 1) := by decide +kernel
theorem dX7_arm_74 : decode cX7_arm 74 = .ok (.baload, 1) := by decide +kernel
theorem dX7_arm_75 : decode cX7_arm 75 = .ok (.ifCond .eq 7, 3) := by decide +kernel
theorem dX7_arm_78 : decode cX7_arm 78 = .ok (.iconst 2, 1) := by decide +kernel
theorem dX7_arm_79 : decode cX7_arm 79 = .ok (.goto 4, 3) := by decide +kernel
theorem dX7_arm_82 : decode cX7_arm 82 = .ok (.iconst 1, 1) := by decide +kernel
theorem dX7_arm_83 : decode cX7_arm 83 = .ok (.ireturn, 1) := by decide +kernel
theorem dX7_arm_84 : decode cX7_arm 84 = .ok (.aload_n 0, 1) := by decide +kernel
theorem dX7_arm_85 : decode cX7_arm 85 = .ok (.getfield 90, 3) := by decide +kernel
theorem dX7_arm_88 : decode cX7_arm 88 = .ok (.iload_n 1, 1) := by decide +kernel
theorem dX7_arm_89 : decode cX7_arm 89 = .ok (.iaload, 1) := by decide +kernel
theorem dX7_arm_90 : decode cX7_arm 90 = .ok (.ireturn, 1) := by decide +kernel
theorem dX7_arm_91 : decode cX7_arm 91 = .ok (.aload_n 0, 1) := by decide +kernel
theorem dX7_arm_92 : decode cX7_arm 92 = .ok (.getfield 90, 3) := by decide +kernel
theorem dX7_arm_95 : decode cX7_arm 95 = .ok (.iload_n 1, 1) := by decide +kernel
theorem dX7_arm_96 : decode cX7_arm 96 = .ok (.iaload, 1) := by decide +kernel
theorem dX7_arm_97 : decode cX7_arm 97 = .ok (.iconst (-1), 1) := by decide +kernel
theorem dX7_arm_98 : decode cX7_arm 98 = .ok (.if_icmp .ne 7, 3) := by decide +kernel
theorem dX7_arm_101 : decode cX7_arm 101 = .ok (.iconst (-1), 1) := by decide +kernel
theorem dX7_arm_102 : decode cX7_arm 102 = .ok (.goto 9, 3) := by decide +kernel
theorem dX7_arm_105 : decode cX7_arm 105 = .ok (.aload_n 0, 1) := by decide +kernel
theorem dX7_arm_106 : decode cX7_arm 106 = .ok (.getfield 100, 3) := by decide +kernel
theorem dX7_arm_109 : decode cX7_arm 109 = .ok (.iload_n 1, 1) := by decide +kernel
theorem dX7_arm_110 : decode cX7_arm 110 = .ok (.iaload, 1) := by decide +kernel
theorem dX7_arm_111 : decode cX7_arm 111 = .ok (.ireturn, 1) := by decide +kernel
theorem dX7_arm_112 : decode cX7_arm 112 = .ok (.iconst (-1), 1) := by decide +kernel
theorem dX7_arm_113 : decode cX7_arm 113 = .ok (.ireturn, 1) := by decide +kernel
theorem dX7_rig_0 : decode cX7_rig 0 = .ok (.aload_n 0, 1) := by decide +kernel
theorem dX7_rig_1 : decode cX7_rig 1 = .ok (.iconst 0, 1) := by decide +kernel
theorem dX7_rig_2 : decode cX7_rig 2 = .ok (.putfield 121, 3) := by decide +kernel
theorem dX7_rig_5 : decode cX7_rig 5 = .ok (.aload_n 0, 1) := by decide +kernel
theorem dX7_rig_6 : decode cX7_rig 6 = .ok (.iload_n 1, 1) := by decide +kernel
theorem dX7_rig_7 : decode cX7_rig 7 = .ok (.invokevirtual 179, 3) := by decide +kernel
theorem dX7_rig_10 : decode cX7_rig 10 = .ok (.ifCond .ne 5, 3) := by decide +kernel
theorem dX7_rig_13 : decode cX7_rig 13 = .ok (.iconst (-1), 1) := by decide +kernel
theorem dX7_rig_14 : decode cX7_rig 14 = .ok (.ireturn, 1) := by decide +kernel
theorem dX7_rig_15 : decode cX7_rig 15 = .ok (.iload_n 2, 1) := by decide +kernel
theorem dX7_rig_16 : decode cX7_rig 16 = .ok (.tableswitch 71 0 4 #[36, 43, 50, 57, 64], 36) := by decide +kernel
theorem dX7_rig_52 : decode cX7_rig 52 = .ok (.aload_n 0, 1) := by decide +kernel
theorem dX7_rig_53 : decode cX7_rig 53 = .ok (.getfield 66, 3) := by decide +kernel
theorem dX7_rig_56 : decode cX7_rig 56 = .ok (.iload_n 1, 1) := by decide +kernel
theorem dX7_rig_57 : decode cX7_rig 57 = .ok (.iaload, 1) := by decide +kernel
theorem dX7_rig_58 : decode cX7_rig 58 = .ok (.ireturn, 1) := by decide +kernel
theorem dX7_rig_59 : decode cX7_rig 59 = .ok (.aload_n 0, 1) := by decide +kernel
theorem dX7_rig_60 : decode cX7_rig 60 = .ok (.getfield 69, 3) := by decide +kernel
theorem dX7_rig_63 : decode cX7_rig 63 = .ok (.iload_n 1, 1) := by decide +kernel
theorem dX7_rig_64 : decode cX7_rig 64 = .ok (.iaload, 1) := by decide +kernel
theorem dX7_rig_65 : decode cX7_rig 65 = .ok (.ireturn, 1) := by decide +kernel
theorem dX7_rig_66 : decode cX7_rig 66 = .ok (.aload_n 0, 1) := by decide +kernel
theorem dX7_rig_67 : decode cX7_rig 67 = .ok (.getfield 72, 3) := by decide +kernel
theorem dX7_rig_70 : decode cX7_rig 70 = .ok (.iload_n 1, 1) := by decide +kernel
theorem dX7_rig_71 : decode cX7_rig 71 = .ok (.iaload, 1) := by decide +kernel
theorem dX7_rig_72 : decode cX7_rig 72 = .ok (.ireturn, 1) := by decide +kernel
theorem dX7_rig_73 : decode cX7_rig 73 = .ok (.aload_n 0, 1) := by decide +kernel
theorem dX7_rig_74 : decode cX7_rig 74 = .ok (.getfield 78, 3) := by decide +kernel
theorem dX7_rig_77 : decode cX7_rig 77 = .ok (.iload_n 1, 1) := by decide +kernel
theorem dX7_rig_78 : decode cX7_rig 78 = .ok (.iaload, 1) := by decide +kernel
theorem dX7_rig_79 : decode cX7_rig 79 = .ok (.ireturn, 1) := by decide +kernel
theorem dX7_rig_80 : decode cX7_rig 80 = .ok (.aload_n 0, 1) := by decide +kernel
theorem dX7_rig_81 : decode cX7_rig 81 = .ok (.getfield 81, 3) := by decide +kernel
theorem dX7_rig_84 : decode cX7_rig 84 = .ok (.iload_n 1, 1) := by decide +kernel
theorem dX7_rig_85 : decode cX7_rig 85 = .ok (.iaload, 1) := by decide +kernel
theorem dX7_rig_86 : decode cX7_rig 86 = .ok (.ireturn, 1) := by decide +kernel
theorem dX7_rig_87 : decode cX7_rig 87 = .ok (.iconst (-1), 1) := by decide +kernel
theorem dX7_rig_88 : decode cX7_rig 88 = .ok (.ireturn, 1) := by decide +kernel
theorem dX7_waiting_0 : decode cX7_waiting 0 = .ok (.iconst 0, 1) := by decide +kernel
theorem dX7_waiting_1 : decode cX7_waiting 1 = .ok (.istore_n 2, 1) := by decide +kernel
theorem dX7_waiting_2 : decode cX7_waiting 2 = .ok (.iconst 0, 1) := by decide +kernel
theorem dX7_waiting_3 : decode cX7_waiting 3 = .ok (.istore_n 3, 1) := by decide +kernel
theorem dX7_waiting_4 : decode cX7_waiting 4 = .ok (.iload_n 3, 1) := by decide +kernel
theorem dX7_waiting_5 : decode cX7_waiting 5 = .ok (.aload_n 0, 1) := by decide +kernel
theorem dX7_waiting_6 : decode cX7_waiting 6 = .ok (.getfield 138, 3) := by decide +kernel
theorem dX7_waiting_9 : decode cX7_waiting 9 = .ok (.if_icmp .ge 36, 3) := by decide +kernel
theorem dX7_waiting_12 : decode cX7_waiting 12 = .ok (.iload_n 2, 1) := by decide +kernel
theorem dX7_waiting_13 : decode cX7_waiting 13 = .ok (.aload_n 0, 1) := by decide +kernel
theorem dX7_waiting_14 : decode cX7_waiting 14 = .ok (.getfield 36, 3) := by decide +kernel
theorem dX7_waiting_17 : decode cX7_waiting 17 = .ok (.iload_n 3, 1) := by decide +kernel
theorem dX7_waiting_18 : decode cX7_waiting 18 = .ok (.iaload, 1) := by decide +kernel
theorem dX7_waiting_19 : decode cX7_waiting 19 = .ok (.iload_n 1, 1) := by decide +kernel
theorem dX7_waiting_20 : decode cX7_waiting 20 = .ok (.if_icmp .ne 16, 3) := by decide +kernel
theorem dX7_waiting_23 : decode cX7_waiting 23 = .ok (.aload_n 0, 1) := by decide +kernel
theorem dX7_waiting_24 : decode cX7_waiting 24 = .ok (.getfield 48, 3) := by decide +kernel
theorem dX7_waiting_27 : decode cX7_waiting 27 = .ok (.iload_n 3, 1) := by decide +kernel
theorem dX7_waiting_28 : decode cX7_waiting 28 = .ok (.iaload, 1) := by decide +kernel
theorem dX7_waiting_29 : decode cX7_waiting 29 = .ok (.ifCond .ne 7, 3) := by decide +kernel
theorem dX7_waiting_32 : decode cX7_waiting 32 = .ok (.iconst 1, 1) := by decide +kernel
theorem dX7_waiting_33 : decode cX7_waiting 33 = .ok (.goto 4, 3) := by decide +kernel
theorem dX7_waiting_36 : decode cX7_waiting 36 = .ok (.iconst 0, 1) := by decide +kernel
theorem dX7_waiting_37 : decode cX7_waiting 37 = .ok (.iadd, 1) := by decide +kernel
theorem dX7_waiting_38 : decode cX7_waiting 38 = .ok (.istore_n 2, 1) := by decide +kernel
theorem dX7_waiting_39 : decode cX7_waiting 39 = .ok (.iinc 3 1, 3) := by decide +kernel
theorem dX7_waiting_42 : decode cX7_waiting 42 = .ok (.goto (-38), 3) := by decide +kernel
theorem dX7_waiting_45 : decode cX7_waiting 45 = .ok (.iload_n 2, 1) := by decide +kernel
theorem dX7_waiting_46 : decode cX7_waiting 46 = .ok (.ireturn, 1) := by decide +kernel
theorem dX7_tapeOf_0 : decode cX7_tapeOf 0 = .ok (.aload_n 0, 1) := by decide +kernel
theorem dX7_tapeOf_1 : decode cX7_tapeOf 1 = .ok (.iconst 0, 1) := by decide +kernel
theorem dX7_tapeOf_2 : decode cX7_tapeOf 2 = .ok (.putfield 121, 3) := by decide +kernel
theorem dX7_tapeOf_5 : decode cX7_tapeOf 5 = .ok (.aload_n 0, 1) := by decide +kernel
theorem dX7_tapeOf_6 : decode cX7_tapeOf 6 = .ok (.iload_n 1, 1) := by decide +kernel
theorem dX7_tapeOf_7 : decode cX7_tapeOf 7 = .ok (.invokevirtual 131, 3) := by decide +kernel
theorem dX7_tapeOf_10 : decode cX7_tapeOf 10 = .ok (.ifCond .ne 5, 3) := by decide +kernel
theorem dX7_tapeOf_13 : decode cX7_tapeOf 13 = .ok (.iconst (-1), 1) := by decide +kernel
theorem dX7_tapeOf_14 : decode cX7_tapeOf 14 = .ok (.ireturn, 1) := by decide +kernel
theorem dX7_tapeOf_15 : decode cX7_tapeOf 15 = .ok (.iload_n 2, 1) := by decide +kernel
theorem dX7_tapeOf_16 : decode cX7_tapeOf 16 = .ok (.tableswitch 92 0 6 #[44, 51, 58, 65, 72, 79, 85], 44) := by decide +kernel
theorem dX7_tapeOf_60 : decode cX7_tapeOf 60 = .ok (.aload_n 0, 1) := by decide +kernel
theorem dX7_tapeOf_61 : decode cX7_tapeOf 61 = .ok (.getfield 7, 3) := by decide +kernel
theorem dX7_tapeOf_64 : decode cX7_tapeOf 64 = .ok (.iload_n 1, 1) := by decide +kernel
theorem dX7_tapeOf_65 : decode cX7_tapeOf 65 = .ok (.iaload, 1) := by decide +kernel
theorem dX7_tapeOf_66 : decode cX7_tapeOf 66 = .ok (.ireturn, 1) := by decide +kernel
theorem dX7_tapeOf_67 : decode cX7_tapeOf 67 = .ok (.aload_n 0, 1) := by decide +kernel
theorem dX7_tapeOf_68 : decode cX7_tapeOf 68 = .ok (.getfield 13, 3) := by decide +kernel
theorem dX7_tapeOf_71 : decode cX7_tapeOf 71 = .ok (.iload_n 1, 1) := by decide +kernel
theorem dX7_tapeOf_72 : decode cX7_tapeOf 72 = .ok (.iaload, 1) := by decide +kernel
theorem dX7_tapeOf_73 : decode cX7_tapeOf 73 = .ok (.ireturn, 1) := by decide +kernel
theorem dX7_tapeOf_74 : decode cX7_tapeOf 74 = .ok (.aload_n 0, 1) := by decide +kernel
theorem dX7_tapeOf_75 : decode cX7_tapeOf 75 = .ok (.getfield 16, 3) := by decide +kernel
theorem dX7_tapeOf_78 : decode cX7_tapeOf 78 = .ok (.iload_n 1, 1) := by decide +kernel
theorem dX7_tapeOf_79 : decode cX7_tapeOf 79 = .ok (.iaload, 1) := by decide +kernel
theorem dX7_tapeOf_80 : decode cX7_tapeOf 80 = .ok (.ireturn, 1) := by decide +kernel
theorem dX7_tapeOf_81 : decode cX7_tapeOf 81 = .ok (.aload_n 0, 1) := by decide +kernel
theorem dX7_tapeOf_82 : decode cX7_tapeOf 82 = .ok (.getfield 19, 3) := by decide +kernel
theorem dX7_tapeOf_85 : decode cX7_tapeOf 85 = .ok (.iload_n 1, 1) := by decide +kernel
theorem dX7_tapeOf_86 : decode cX7_tapeOf 86 = .ok (.iaload, 1) := by decide +kernel
theorem dX7_tapeOf_87 : decode cX7_tapeOf 87 = .ok (.ireturn, 1) := by decide +kernel
theorem dX7_tapeOf_88 : decode cX7_tapeOf 88 = .ok (.aload_n 0, 1) := by decide +kernel
theorem dX7_tapeOf_89 : decode cX7_tapeOf 89 = .ok (.getfield 22, 3) := by decide +kernel
theorem dX7_tapeOf_92 : decode cX7_tapeOf 92 = .ok (.iload_n 1, 1) := by decide +kernel
theorem dX7_tapeOf_93 : decode cX7_tapeOf 93 = .ok (.iaload, 1) := by decide +kernel
theorem dX7_tapeOf_94 : decode cX7_tapeOf 94 = .ok (.ireturn, 1) := by decide +kernel
theorem dX7_tapeOf_95 : decode cX7_tapeOf 95 = .ok (.aload_n 0, 1) := by decide +kernel
theorem dX7_tapeOf_96 : decode cX7_tapeOf 96 = .ok (.iload_n 1, 1) := by decide +kernel
theorem dX7_tapeOf_97 : decode cX7_tapeOf 97 = .ok (.invokevirtual 236, 3) := by decide +kernel
theorem dX7_tapeOf_100 : decode cX7_tapeOf 100 = .ok (.ireturn, 1) := by decide +kernel
theorem dX7_tapeOf_101 : decode cX7_tapeOf 101 = .ok (.aload_n 0, 1) := by decide +kernel
theorem dX7_tapeOf_102 : decode cX7_tapeOf 102 = .ok (.iload_n 1, 1) := by decide +kernel
theorem dX7_tapeOf_103 : decode cX7_tapeOf 103 = .ok (.iconst 0, 1) := by decide +kernel
theorem dX7_tapeOf_104 : decode cX7_tapeOf 104 = .ok (.invokevirtual 222, 3) := by decide +kernel
theorem dX7_tapeOf_107 : decode cX7_tapeOf 107 = .ok (.ireturn, 1) := by decide +kernel
theorem dX7_tapeOf_108 : decode cX7_tapeOf 108 = .ok (.iconst (-1), 1) := by decide +kernel
theorem dX7_tapeOf_109 : decode cX7_tapeOf 109 = .ok (.ireturn, 1) := by decide +kernel
theorem dX7_askOf_0 : decode cX7_askOf 0 = .ok (.aload_n 0, 1) := by decide +kernel
theorem dX7_askOf_1 : decode cX7_askOf 1 = .ok (.iconst 0, 1) := by decide +kernel
theorem dX7_askOf_2 : decode cX7_askOf 2 = .ok (.putfield 121, 3) := by decide +kernel
theorem dX7_askOf_5 : decode cX7_askOf 5 = .ok (.iload_n 1, 1) := by decide +kernel
theorem dX7_askOf_6 : decode cX7_askOf 6 = .ok (.iconst 0, 1) := by decide +kernel
theorem dX7_askOf_7 : decode cX7_askOf 7 = .ok (.aload_n 0, 1) := by decide +kernel
theorem dX7_askOf_8 : decode cX7_askOf 8 = .ok (.getfield 138, 3) := by decide +kernel
theorem dX7_askOf_11 : decode cX7_askOf 11 = .ok (.iconst 1, 1) := by decide +kernel
theorem dX7_askOf_12 : decode cX7_askOf 12 = .ok (.isub, 1) := by decide +kernel
theorem dX7_askOf_13 : decode cX7_askOf 13 = .ok (.invokestatic 127, 3) := by decide +kernel
theorem dX7_askOf_16 : decode cX7_askOf 16 = .ok (.ifCond .ne 7, 3) := by decide +kernel
theorem dX7_askOf_19 : decode cX7_askOf 19 = .ok (.ldc2_w 239, 3) := by decide +kernel
theorem dX7_askOf_22 : decode cX7_askOf 22 = .ok (.lreturn, 1) := by decide +kernel
theorem dX7_askOf_23 : decode cX7_askOf 23 = .ok (.iload_n 2, 1) := by decide +kernel
theorem dX7_askOf_24 : decode cX7_askOf 24 = .ok (.tableswitch 111 0 7 #[48, 56, 64, 72, 80, 88, 95, 103], 48) := by decide +kernel
theorem dX7_askOf_72 : decode cX7_askOf 72 = .ok (.aload_n 0, 1) := by decide +kernel
theorem dX7_askOf_73 : decode cX7_askOf 73 = .ok (.getfield 33, 3) := by decide +kernel
theorem dX7_askOf_76 : decode cX7_askOf 76 = .ok (.iload_n 1, 1) := by decide +kernel
theorem dX7_askOf_77 : decode cX7_askOf 77 = .ok (.iaload, 1) := by decide +kernel
theorem dX7_askOf_78 : decode cX7_askOf 78 = .ok (.i2l, 1) := by decide +kernel
theorem dX7_askOf_79 : decode cX7_askOf 79 = .ok (.lreturn, 1) := by decide +kernel
theorem dX7_askOf_80 : decode cX7_askOf 80 = .ok (.aload_n 0, 1) := by decide +kernel
theorem dX7_askOf_81 : decode cX7_askOf 81 = .ok (.getfield 36, 3) := by decide +kernel
theorem dX7_askOf_84 : decode cX7_askOf 84 = .ok (.iload_n 1, 1) := by decide +kernel
theorem dX7_askOf_85 : decode cX7_askOf 85 = .ok (.iaload, 1) := by decide +kernel
theorem dX7_askOf_86 : decode cX7_askOf 86 = .ok (.i2l, 1) := by decide +kernel
theorem dX7_askOf_87 : decode cX7_askOf 87 = .ok (.lreturn, 1) := by decide +kernel
theorem dX7_askOf_88 : decode cX7_askOf 88 = .ok (.aload_n 0, 1) := by decide +kernel
theorem dX7_askOf_89 : decode cX7_askOf 89 = .ok (.getfield 48, 3) := by decide +kernel
theorem dX7_askOf_92 : decode cX7_askOf 92 = .ok (.iload_n 1, 1) := by decide +kernel
theorem dX7_askOf_93 : decode cX7_askOf 93 = .ok (.iaload, 1) := by decide +kernel
theorem dX7_askOf_94 : decode cX7_askOf 94 = .ok (.i2l, 1) := by decide +kernel
theorem dX7_askOf_95 : decode cX7_askOf 95 = .ok (.lreturn, 1) := by decide +kernel
theorem dX7_askOf_96 : decode cX7_askOf 96 = .ok (.aload_n 0, 1) := by decide +kernel
theorem dX7_askOf_97 : decode cX7_askOf 97 = .ok (.getfield 45, 3) := by decide +kernel
theorem dX7_askOf_100 : decode cX7_askOf 100 = .ok (.iload_n 1, 1) := by decide +kernel
theorem dX7_askOf_101 : decode cX7_askOf 101 = .ok (.iaload, 1) := by decide +kernel
theorem dX7_askOf_102 : decode cX7_askOf 102 = .ok (.i2l, 1) := by decide +kernel
theorem dX7_askOf_103 : decode cX7_askOf 103 = .ok (.lreturn, 1) := by decide +kernel
theorem dX7_askOf_104 : decode cX7_askOf 104 = .ok (.aload_n 0, 1) := by decide +kernel
theorem dX7_askOf_105 : decode cX7_askOf 105 = .ok (.getfield 51, 3) := by decide +kernel
theorem dX7_askOf_108 : decode cX7_askOf 108 = .ok (.iload_n 1, 1) := by decide +kernel
theorem dX7_askOf_109 : decode cX7_askOf 109 = .ok (.iaload, 1) := by decide +kernel
theorem dX7_askOf_110 : decode cX7_askOf 110 = .ok (.i2l, 1) := by decide +kernel
theorem dX7_askOf_111 : decode cX7_askOf 111 = .ok (.lreturn, 1) := by decide +kernel
theorem dX7_askOf_112 : decode cX7_askOf 112 = .ok (.aload_n 0, 1) := by decide +kernel
theorem dX7_askOf_113 : decode cX7_askOf 113 = .ok (.getfield 54, 3) := by decide +kernel
theorem dX7_askOf_116 : decode cX7_askOf 116 = .ok (.iload_n 1, 1) := by decide +kernel
theorem dX7_askOf_117 : decode cX7_askOf 117 = .ok (.laload, 1) := by decide +kernel
theorem dX7_askOf_118 : decode cX7_askOf 118 = .ok (.lreturn, 1) := by decide +kernel
theorem dX7_askOf_119 : decode cX7_askOf 119 = .ok (.aload_n 0, 1) := by decide +kernel
theorem dX7_askOf_120 : decode cX7_askOf 120 = .ok (.getfield 39, 3) := by decide +kernel
theorem dX7_askOf_123 : decode cX7_askOf 123 = .ok (.iload_n 1, 1) := by decide +kernel
theorem dX7_askOf_124 : decode cX7_askOf 124 = .ok (.iaload, 1) := by decide +kernel
theorem dX7_askOf_125 : decode cX7_askOf 125 = .ok (.i2l, 1) := by decide +kernel
theorem dX7_askOf_126 : decode cX7_askOf 126 = .ok (.lreturn, 1) := by decide +kernel
theorem dX7_askOf_127 : decode cX7_askOf 127 = .ok (.aload_n 0, 1) := by decide +kernel
theorem dX7_askOf_128 : decode cX7_askOf 128 = .ok (.getfield 42, 3) := by decide +kernel
theorem dX7_askOf_131 : decode cX7_askOf 131 = .ok (.iload_n 1, 1) := by decide +kernel
theorem dX7_askOf_132 : decode cX7_askOf 132 = .ok (.iaload, 1) := by decide +kernel
theorem dX7_askOf_133 : decode cX7_askOf 133 = .ok (.i2l, 1) := by decide +kernel
theorem dX7_askOf_134 : decode cX7_askOf 134 = .ok (.lreturn, 1) := by decide +kernel
theorem dX7_askOf_135 : decode cX7_askOf 135 = .ok (.ldc2_w 239, 3) := by decide +kernel
theorem dX7_askOf_138 : decode cX7_askOf 138 = .ok (.lreturn, 1) := by decide +kernel
theorem dX7_copy_0 : decode cX7_copy 0 = .ok (.aload_n 0, 1) := by decide +kernel
theorem dX7_copy_1 : decode cX7_copy 1 = .ok (.iconst 0, 1) := by decide +kernel
theorem dX7_copy_2 : decode cX7_copy 2 = .ok (.putfield 121, 3) := by decide +kernel
theorem dX7_copy_5 : decode cX7_copy 5 = .ok (.aload_n 0, 1) := by decide +kernel
theorem dX7_copy_6 : decode cX7_copy 6 = .ok (.iload_n 1, 1) := by decide +kernel
theorem dX7_copy_7 : decode cX7_copy 7 = .ok (.invokevirtual 131, 3) := by decide +kernel
theorem dX7_copy_10 : decode cX7_copy 10 = .ok (.ifCond .eq 27, 3) := by decide +kernel
theorem dX7_copy_13 : decode cX7_copy 13 = .ok (.aload_n 0, 1) := by decide +kernel
theorem dX7_copy_14 : decode cX7_copy 14 = .ok (.iload_n 3, 1) := by decide +kernel
theorem dX7_copy_15 : decode cX7_copy 15 = .ok (.invokevirtual 131, 3) := by decide +kernel
theorem dX7_copy_18 : decode cX7_copy 18 = .ok (.ifCond .eq 19, 3) := by decide +kernel
theorem dX7_copy_21 : decode cX7_copy 21 = .ok (.aload_n 0, 1) := by decide +kernel
theorem dX7_copy_22 : decode cX7_copy 22 = .ok (.iload_n 1, 1) := by decide +kernel
theorem dX7_copy_23 : decode cX7_copy 23 = .ok (.invokevirtual 219, 3) := by decide +kernel
theorem dX7_copy_26 : decode cX7_copy 26 = .ok (.ifCond .eq 11, 3) := by decide +kernel
theorem dX7_copy_29 : decode cX7_copy 29 = .ok (.aload_n 0, 1) := by decide +kernel
theorem dX7_copy_30 : decode cX7_copy 30 = .ok (.iload_n 3, 1) := by decide +kernel
theorem dX7_copy_31 : decode cX7_copy 31 = .ok (.invokevirtual 219, 3) := by decide +kernel
theorem dX7_copy_34 : decode cX7_copy 34 = .ok (.ifCond .ne 5, 3) := by decide +kernel
theorem dX7_copy_37 : decode cX7_copy 37 = .ok (.iconst (-1), 1) := by decide +kernel
theorem dX7_copy_38 : decode cX7_copy 38 = .ok (.ireturn, 1) := by decide +kernel
theorem dX7_copy_39 : decode cX7_copy 39 = .ok (.aload_n 0, 1) := by decide +kernel
theorem dX7_copy_40 : decode cX7_copy 40 = .ok (.getfield 13, 3) := by decide +kernel
theorem dX7_copy_43 : decode cX7_copy 43 = .ok (.iload_n 1, 1) := by decide +kernel
theorem dX7_copy_44 : decode cX7_copy 44 = .ok (.iaload, 1) := by decide +kernel
theorem dX7_copy_45 : decode cX7_copy 45 = .ok (.iconst 4, 1) := by decide +kernel
theorem dX7_copy_46 : decode cX7_copy 46 = .ok (.if_icmp .eq 13, 3) := by decide +kernel
theorem dX7_copy_49 : decode cX7_copy 49 = .ok (.aload_n 0, 1) := by decide +kernel
theorem dX7_copy_50 : decode cX7_copy 50 = .ok (.getfield 13, 3) := by decide +kernel
theorem dX7_copy_53 : decode cX7_copy 53 = .ok (.iload_n 3, 1) := by decide +kernel
theorem dX7_copy_54 : decode cX7_copy 54 = .ok (.iaload, 1) := by decide +kernel
theorem dX7_copy_55 : decode cX7_copy 55 = .ok (.iconst 4, 1) := by decide +kernel
theorem dX7_copy_56 : decode cX7_copy 56 = .ok (.if_icmp .ne 6, 3) := by decide +kernel
theorem dX7_copy_59 : decode cX7_copy 59 = .ok (.bipush (-2), 2) := by decide +kernel
theorem dX7_copy_61 : decode cX7_copy 61 = .ok (.ireturn, 1) := by decide +kernel
theorem dX7_copy_62 : decode cX7_copy 62 = .ok (.aload_n 0, 1) := by decide +kernel
theorem dX7_copy_63 : decode cX7_copy 63 = .ok (.getfield 13, 3) := by decide +kernel
theorem dX7_copy_66 : decode cX7_copy 66 = .ok (.iload_n 1, 1) := by decide +kernel
theorem dX7_copy_67 : decode cX7_copy 67 = .ok (.iaload, 1) := by decide +kernel
theorem dX7_copy_68 : decode cX7_copy 68 = .ok (.aload_n 0, 1) := by decide +kernel
theorem dX7_copy_69 : decode cX7_copy 69 = .ok (.getfield 13, 3) := by decide +kernel
theorem dX7_copy_72 : decode cX7_copy 72 = .ok (.iload_n 3, 1) := by decide +kernel
theorem dX7_copy_73 : decode cX7_copy 73 = .ok (.iaload, 1) := by decide +kernel
theorem dX7_copy_74 : decode cX7_copy 74 = .ok (.if_icmp .eq 6, 3) := by decide +kernel
theorem dX7_copy_77 : decode cX7_copy 77 = .ok (.bipush (-3), 2) := by decide +kernel
theorem dX7_copy_79 : decode cX7_copy 79 = .ok (.ireturn, 1) := by decide +kernel
theorem dX7_copy_80 : decode cX7_copy 80 = .ok (.iload 5, 2) := by decide +kernel
theorem dX7_copy_82 : decode cX7_copy 82 = .ok (.ifCond .lt 39, 3) := by decide +kernel
theorem dX7_copy_85 : decode cX7_copy 85 = .ok (.iload_n 2, 1) := by decide +kernel
theorem dX7_copy_86 : decode cX7_copy 86 = .ok (.ifCond .lt 35, 3) := by decide +kernel
theorem dX7_copy_89 : decode cX7_copy 89 = .ok (.iload 4, 2) := by decide +kernel
theorem dX7_copy_91 : decode cX7_copy 91 = .ok (.ifCond .lt 30, 3) := by decide +kernel
theorem dX7_copy_94 : decode cX7_copy 94 = .ok (.iload_n 2, 1) := by decide +kernel
theorem dX7_copy_95 : decode cX7_copy 95 = .ok (.aload_n 0, 1) := by decide +kernel
theorem dX7_copy_96 : decode cX7_copy 96 = .ok (.getfield 16, 3) := by decide +kernel
theorem dX7_copy_99 : decode cX7_copy 99 = .ok (.iload_n 1, 1) := by decide +kernel
theorem dX7_copy_100 : decode cX7_copy 100 = .ok (.iaload, 1) := by decide +kernel
theorem dX7_copy_101 : decode cX7_copy 101 = .ok (.iload 5, 2) := by decide +kernel
theorem dX7_copy_103 : decode cX7_copy 103 = .ok (.isub, 1) := by decide +kernel
theorem dX7_copy_104 : decode cX7_copy 104 = .ok (.if_icmp .gt 17, 3) := by decide +kernel
theorem dX7_copy_107 : decode cX7_copy 107 = .ok (.iload 4, 2) := by decide +kernel
theorem dX7_copy_109 : decode cX7_copy 109 = .ok (.aload_n 0, 1) := by decide +kernel
theorem dX7_copy_110 : decode cX7_copy 110 = .ok (.getfield 16, 3) := by decide +kernel
theorem dX7_copy_113 : decode cX7_copy 113 = .ok (.iload_n 3, 1) := by decide +kernel
theorem dX7_copy_114 : decode cX7_copy 114 = .ok (.iaload, 1) := by decide +kernel
theorem dX7_copy_115 : decode cX7_copy 115 = .ok (.iload 5, 2) := by decide +kernel
theorem dX7_copy_117 : decode cX7_copy 117 = .ok (.isub, 1) := by decide +kernel
theorem dX7_copy_118 : decode cX7_copy 118 = .ok (.if_icmp .le 6, 3) := by decide +kernel
theorem dX7_copy_121 : decode cX7_copy 121 = .ok (.bipush (-4), 2) := by decide +kernel
theorem dX7_copy_123 : decode cX7_copy 123 = .ok (.ireturn, 1) := by decide +kernel
theorem dX7_copy_124 : decode cX7_copy 124 = .ok (.iload_n 1, 1) := by decide +kernel
theorem dX7_copy_125 : decode cX7_copy 125 = .ok (.iload_n 3, 1) := by decide +kernel
theorem dX7_copy_126 : decode cX7_copy 126 = .ok (.if_icmp .ne 13, 3) := by decide +kernel
theorem dX7_copy_129 : decode cX7_copy 129 = .ok (.iload 4, 2) := by decide +kernel
theorem dX7_copy_131 : decode cX7_copy 131 = .ok (.iload_n 2, 1) := by decide +kernel
theorem dX7_copy_132 : decode cX7_copy 132 = .ok (.if_icmp .le 7, 3) := by decide +kernel
theorem dX7_copy_135 : decode cX7_copy 135 = .ok (.iconst 1, 1) := by decide +kernel
theorem dX7_copy_136 : decode cX7_copy 136 = .ok (.goto 4, 3) := by decide +kernel
theorem dX7_copy_139 : decode cX7_copy 139 = .ok (.iconst 0, 1) := by decide +kernel
theorem dX7_copy_140 : decode cX7_copy 140 = .ok (.istore 6, 2) := by decide +kernel
theorem dX7_copy_142 : decode cX7_copy 142 = .ok (.iconst 0, 1) := by decide +kernel
theorem dX7_copy_143 : decode cX7_copy 143 = .ok (.istore 7, 2) := by decide +kernel
theorem dX7_copy_145 : decode cX7_copy 145 = .ok (.iload 7, 2) := by decide +kernel
theorem dX7_copy_147 : decode cX7_copy 147 = .ok (.iload 5, 2) := by decide +kernel
theorem dX7_copy_149 : decode cX7_copy 149 = .ok (.if_icmp .ge 57, 3) := by decide +kernel
theorem dX7_copy_152 : decode cX7_copy 152 = .ok (.iload 6, 2) := by decide +kernel
theorem dX7_copy_154 : decode cX7_copy 154 = .ok (.ifCond .eq 13, 3) := by decide +kernel
theorem dX7_copy_157 : decode cX7_copy 157 = .ok (.iload 5, 2) := by decide +kernel
theorem dX7_copy_159 : decode cX7_copy 159 = .ok (.iconst 1, 1) := by decide +kernel
theorem dX7_copy_160 : decode cX7_copy 160 = .ok (.isub, 1) := by decide +kernel
theorem dX7_copy_161 : decode cX7_copy 161 = .ok (.iload 7, 2) := by decide +kernel
theorem dX7_copy_163 : decode cX7_copy 163 = .ok (.isub, 1) := by decide +kernel
theorem dX7_copy_164 : decode cX7_copy 164 = .ok (.goto 5, 3) := by decide +kernel
theorem dX7_copy_167 : decode cX7_copy 167 = .ok (.iload 7, 2) := by decide +kernel
theorem dX7_copy_169 : decode cX7_copy 169 = .ok (.istore 8, 2) := by decide +kernel
theorem dX7_copy_171 : decode cX7_copy 171 = .ok (.aload_n 0, 1) := by decide +kernel
theorem dX7_copy_172 : decode cX7_copy 172 = .ok (.getfield 25, 3) := by decide +kernel
theorem dX7_copy_175 : decode cX7_copy 175 = .ok (.bipush 60, 2) := by decide +kernel
theorem dX7_copy_177 : decode cX7_copy 177 = .ok (.iload_n 3, 1) := by decide +kernel
theorem dX7_copy_178 : decode cX7_copy 178 = .ok (.imul, 1) := by decide +kernel
theorem dX7_copy_179 : decode cX7_copy 179 = .ok (.iload 4, 2) := by decide +kernel
theorem dX7_copy_181 : decode cX7_copy 181 = .ok (.iadd, 1) := by decide +kernel
theorem dX7_copy_182 : decode cX7_copy 182 = .ok (.iload 8, 2) := by decide +kernel
theorem dX7_copy_184 : decode cX7_copy 184 = .ok (.iadd, 1) := by decide +kernel
theorem dX7_copy_185 : decode cX7_copy 185 = .ok (.aload_n 0, 1) := by decide +kernel
theorem dX7_copy_186 : decode cX7_copy 186 = .ok (.getfield 25, 3) := by decide +kernel
theorem dX7_copy_189 : decode cX7_copy 189 = .ok (.bipush 60, 2) := by decide +kernel
theorem dX7_copy_191 : decode cX7_copy 191 = .ok (.iload_n 1, 1) := by decide +kernel
theorem dX7_copy_192 : decode cX7_copy 192 = .ok (.imul, 1) := by decide +kernel
theorem dX7_copy_193 : decode cX7_copy 193 = .ok (.iload_n 2, 1) := by decide +kernel
theorem dX7_copy_194 : decode cX7_copy 194 = .ok (.iadd, 1) := by decide +kernel
theorem dX7_copy_195 : decode cX7_copy 195 = .ok (.iload 8, 2) := by decide +kernel
theorem dX7_copy_197 : decode cX7_copy 197 = .ok (.iadd, 1) := by decide +kernel
theorem dX7_copy_198 : decode cX7_copy 198 = .ok (.laload, 1) := by decide +kernel
theorem dX7_copy_199 : decode cX7_copy 199 = .ok (.lastore, 1) := by decide +kernel
theorem dX7_copy_200 : decode cX7_copy 200 = .ok (.iinc 7 1, 3) := by decide +kernel
theorem dX7_copy_203 : decode cX7_copy 203 = .ok (.goto (-58), 3) := by decide +kernel
theorem dX7_copy_206 : decode cX7_copy 206 = .ok (.iload 5, 2) := by decide +kernel
theorem dX7_copy_208 : decode cX7_copy 208 = .ok (.ireturn, 1) := by decide +kernel
theorem dX7_count_0 : decode cX7_count 0 = .ok (.aload_n 0, 1) := by decide +kernel
theorem dX7_count_1 : decode cX7_count 1 = .ok (.iconst 0, 1) := by decide +kernel
theorem dX7_count_2 : decode cX7_count 2 = .ok (.putfield 121, 3) := by decide +kernel
theorem dX7_count_5 : decode cX7_count 5 = .ok (.iload_n 1, 1) := by decide +kernel
theorem dX7_count_6 : decode cX7_count 6 = .ok (.tableswitch 112 0 11 #[62, 67, 72, 77, 82, 82, 82, 82, 90, 96, 102, 107], 62) := by decide +kernel
theorem dX7_count_68 : decode cX7_count 68 = .ok (.aload_n 0, 1) := by decide +kernel
theorem dX7_count_69 : decode cX7_count 69 = .ok (.getfield 124, 3) := by decide +kernel
theorem dX7_count_72 : decode cX7_count 72 = .ok (.ireturn, 1) := by decide +kernel
theorem dX7_count_73 : decode cX7_count 73 = .ok (.aload_n 0, 1) := by decide +kernel
theorem dX7_count_74 : decode cX7_count 74 = .ok (.getfield 176, 3) := by decide +kernel
theorem dX7_count_77 : decode cX7_count 77 = .ok (.ireturn, 1) := by decide +kernel
theorem dX7_count_78 : decode cX7_count 78 = .ok (.aload_n 0, 1) := by decide +kernel
theorem dX7_count_79 : decode cX7_count 79 = .ok (.getfield 138, 3) := by decide +kernel
theorem dX7_count_82 : decode cX7_count 82 = .ok (.ireturn, 1) := by decide +kernel
theorem dX7_count_83 : decode cX7_count 83 = .ok (.aload_n 0, 1) := by decide +kernel
theorem dX7_count_84 : decode cX7_count 84 = .ok (.getfield 141, 3) := by decide +kernel
theorem dX7_count_87 : decode cX7_count 87 = .ok (.ireturn, 1) := by decide +kernel
theorem dX7_count_88 : decode cX7_count 88 = .ok (.aload_n 0, 1) := by decide +kernel
theorem dX7_count_89 : decode cX7_count 89 = .ok (.iload_n 1, 1) := by decide +kernel
theorem dX7_count_90 : decode cX7_count 90 = .ok (.iconst 4, 1) := by decide +kernel
theorem dX7_count_91 : decode cX7_count 91 = .ok (.isub, 1) := by decide +kernel
theorem dX7_count_92 : decode cX7_count 92 = .ok (.invokevirtual 241, 3) := by decide +kernel
theorem dX7_count_95 : decode cX7_count 95 = .ok (.ireturn, 1) := by decide +kernel
theorem dX7_count_96 : decode cX7_count 96 = .ok (.aload_n 0, 1) := by decide +kernel
theorem dX7_count_97 : decode cX7_count 97 = .ok (.iconst 0, 1) := by decide +kernel
theorem dX7_count_98 : decode cX7_count 98 = .ok (.invokevirtual 244, 3) := by decide +kernel
theorem dX7_count_101 : decode cX7_count 101 = .ok (.ireturn, 1) := by decide +kernel
theorem dX7_count_102 : decode cX7_count 102 = .ok (.aload_n 0, 1) := by decide +kernel
theorem dX7_count_103 : decode cX7_count 103 = .ok (.iconst 1, 1) := by decide +kernel
theorem dX7_count_104 : decode cX7_count 104 = .ok (.invokevirtual 244, 3) := by decide +kernel
theorem dX7_count_107 : decode cX7_count 107 = .ok (.ireturn, 1) := by decide +kernel
theorem dX7_count_108 : decode cX7_count 108 = .ok (.aload_n 0, 1) := by decide +kernel
theorem dX7_count_109 : decode cX7_count 109 = .ok (.getfield 248, 3) := by decide +kernel
theorem dX7_count_112 : decode cX7_count 112 = .ok (.ireturn, 1) := by decide +kernel
theorem dX7_count_113 : decode cX7_count 113 = .ok (.aload_n 0, 1) := by decide +kernel
theorem dX7_count_114 : decode cX7_count 114 = .ok (.getfield 190, 3) := by decide +kernel
theorem dX7_count_117 : decode cX7_count 117 = .ok (.ireturn, 1) := by decide +kernel
theorem dX7_count_118 : decode cX7_count 118 = .ok (.iconst (-1), 1) := by decide +kernel
theorem dX7_count_119 : decode cX7_count 119 = .ok (.ireturn, 1) := by decide +kernel
theorem dX7_inState_0 : decode cX7_inState 0 = .ok (.iconst 0, 1) := by decide +kernel
theorem dX7_inState_1 : decode cX7_inState 1 = .ok (.istore_n 2, 1) := by decide +kernel
theorem dX7_inState_2 : decode cX7_inState 2 = .ok (.iconst 0, 1) := by decide +kernel
theorem dX7_inState_3 : decode cX7_inState 3 = .ok (.istore_n 3, 1) := by decide +kernel
theorem dX7_inState_4 : decode cX7_inState 4 = .ok (.iload_n 3, 1) := by decide +kernel
theorem dX7_inState_5 : decode cX7_inState 5 = .ok (.aload_n 0, 1) := by decide +kernel
theorem dX7_inState_6 : decode cX7_inState 6 = .ok (.getfield 138, 3) := by decide +kernel
theorem dX7_inState_9 : decode cX7_inState 9 = .ok (.if_icmp .ge 27, 3) := by decide +kernel
theorem dX7_inState_12 : decode cX7_inState 12 = .ok (.iload_n 2, 1) := by decide +kernel
theorem dX7_inState_13 : decode cX7_inState 13 = .ok (.aload_n 0, 1) := by decide +kernel
theorem dX7_inState_14 : decode cX7_inState 14 = .ok (.getfield 48, 3) := by decide +kernel
theorem dX7_inState_17 : decode cX7_inState 17 = .ok (.iload_n 3, 1) := by decide +kernel
theorem dX7_inState_18 : decode cX7_inState 18 = .ok (.iaload, 1) := by decide +kernel
theorem dX7_inState_19 : decode cX7_inState 19 = .ok (.iload_n 1, 1) := by decide +kernel
theorem dX7_inState_20 : decode cX7_inState 20 = .ok (.if_icmp .ne 7, 3) := by decide +kernel
theorem dX7_inState_23 : decode cX7_inState 23 = .ok (.iconst 1, 1) := by decide +kernel
theorem dX7_inState_24 : decode cX7_inState 24 = .ok (.goto 4, 3) := by decide +kernel
theorem dX7_inState_27 : decode cX7_inState 27 = .ok (.iconst 0, 1) := by decide +kernel
theorem dX7_inState_28 : decode cX7_inState 28 = .ok (.iadd, 1) := by decide +kernel
theorem dX7_inState_29 : decode cX7_inState 29 = .ok (.istore_n 2, 1) := by decide +kernel
theorem dX7_inState_30 : decode cX7_inState 30 = .ok (.iinc 3 1, 3) := by decide +kernel
theorem dX7_inState_33 : decode cX7_inState 33 = .ok (.goto (-29), 3) := by decide +kernel
theorem dX7_inState_36 : decode cX7_inState 36 = .ok (.iload_n 2, 1) := by decide +kernel
theorem dX7_inState_37 : decode cX7_inState 37 = .ok (.ireturn, 1) := by decide +kernel
theorem dX7_ages_0 : decode cX7_ages 0 = .ok (.iconst 0, 1) := by decide +kernel
theorem dX7_ages_1 : decode cX7_ages 1 = .ok (.istore_n 2, 1) := by decide +kernel
theorem dX7_ages_2 : decode cX7_ages 2 = .ok (.iconst 0, 1) := by decide +kernel
theorem dX7_ages_3 : decode cX7_ages 3 = .ok (.istore_n 3, 1) := by decide +kernel
theorem dX7_ages_4 : decode cX7_ages 4 = .ok (.iload_n 3, 1) := by decide +kernel
theorem dX7_ages_5 : decode cX7_ages 5 = .ok (.aload_n 0, 1) := by decide +kernel
theorem dX7_ages_6 : decode cX7_ages 6 = .ok (.getfield 138, 3) := by decide +kernel
theorem dX7_ages_9 : decode cX7_ages 9 = .ok (.if_icmp .ge 55, 3) := by decide +kernel
theorem dX7_ages_12 : decode cX7_ages 12 = .ok (.aload_n 0, 1) := by decide +kernel
theorem dX7_ages_13 : decode cX7_ages 13 = .ok (.getfield 51, 3) := by decide +kernel
theorem dX7_ages_16 : decode cX7_ages 16 = .ok (.iload_n 3, 1) := by decide +kernel
theorem dX7_ages_17 : decode cX7_ages 17 = .ok (.iaload, 1) := by decide +kernel
theorem dX7_ages_18 : decode cX7_ages 18 = .ok (.iconst (-1), 1) := by decide +kernel
theorem dX7_ages_19 : decode cX7_ages 19 = .ok (.if_icmp .ne 6, 3) := by decide +kernel
theorem dX7_ages_22 : decode cX7_ages 22 = .ok (.goto 36, 3) := by decide +kernel
theorem dX7_ages_25 : decode cX7_ages 25 = .ok (.aload_n 0, 1) := by decide +kernel
theorem dX7_ages_26 : decode cX7_ages 26 = .ok (.getfield 51, 3) := by decide +kernel
theorem dX7_ages_29 : decode cX7_ages 29 = .ok (.iload_n 3, 1) := by decide +kernel
theorem dX7_ages_30 : decode cX7_ages 30 = .ok (.iaload, 1) := by decide +kernel
theorem dX7_ages_31 : decode cX7_ages 31 = .ok (.aload_n 0, 1) := by decide +kernel
theorem dX7_ages_32 : decode cX7_ages 32 = .ok (.getfield 45, 3) := by decide +kernel
theorem dX7_ages_35 : decode cX7_ages 35 = .ok (.iload_n 3, 1) := by decide +kernel
theorem dX7_ages_36 : decode cX7_ages 36 = .ok (.iaload, 1) := by decide +kernel
theorem dX7_ages_37 : decode cX7_ages 37 = .ok (.isub, 1) := by decide +kernel
theorem dX7_ages_38 : decode cX7_ages 38 = .ok (.istore 4, 2) := by decide +kernel
theorem dX7_ages_40 : decode cX7_ages 40 = .ok (.iload_n 1, 1) := by decide +kernel
theorem dX7_ages_41 : decode cX7_ages 41 = .ok (.ifCond .eq 12, 3) := by decide +kernel
theorem dX7_ages_44 : decode cX7_ages 44 = .ok (.iload_n 2, 1) := by decide +kernel
theorem dX7_ages_45 : decode cX7_ages 45 = .ok (.iload 4, 2) := by decide +kernel
theorem dX7_ages_47 : decode cX7_ages 47 = .ok (.invokestatic 203, 3) := by decide +kernel
theorem dX7_ages_50 : decode cX7_ages 50 = .ok (.goto 7, 3) := by decide +kernel
theorem dX7_ages_53 : decode cX7_ages 53 = .ok (.iload_n 2, 1) := by decide +kernel
theorem dX7_ages_54 : decode cX7_ages 54 = .ok (.iload 4, 2) := by decide +kernel
theorem dX7_ages_56 : decode cX7_ages 56 = .ok (.iadd, 1) := by decide +kernel
theorem dX7_ages_57 : decode cX7_ages 57 = .ok (.istore_n 2, 1) := by decide +kernel
theorem dX7_ages_58 : decode cX7_ages 58 = .ok (.iinc 3 1, 3) := by decide +kernel
theorem dX7_ages_61 : decode cX7_ages 61 = .ok (.goto (-57), 3) := by decide +kernel
theorem dX7_ages_64 : decode cX7_ages 64 = .ok (.iload_n 2, 1) := by decide +kernel
theorem dX7_ages_65 : decode cX7_ages 65 = .ok (.ireturn, 1) := by decide +kernel
theorem dX7_item_0 : decode cX7_item 0 = .ok (.aload_n 0, 1) := by decide +kernel
theorem dX7_item_1 : decode cX7_item 1 = .ok (.iconst 0, 1) := by decide +kernel
theorem dX7_item_2 : decode cX7_item 2 = .ok (.putfield 121, 3) := by decide +kernel
theorem dX7_item_5 : decode cX7_item 5 = .ok (.iload_n 1, 1) := by decide +kernel
theorem dX7_item_6 : decode cX7_item 6 = .ok (.iconst 1, 1) := by decide +kernel
theorem dX7_item_7 : decode cX7_item 7 = .ok (.bipush 50, 2) := by decide +kernel
theorem dX7_item_9 : decode cX7_item 9 = .ok (.invokestatic 127, 3) := by decide +kernel
theorem dX7_item_12 : decode cX7_item 12 = .ok (.ifCond .eq 23, 3) := by decide +kernel
theorem dX7_item_15 : decode cX7_item 15 = .ok (.iload_n 2, 1) := by decide +kernel
theorem dX7_item_16 : decode cX7_item 16 = .ok (.iconst 0, 1) := by decide +kernel
theorem dX7_item_17 : decode cX7_item 17 = .ok (.sipush 1000, 3) := by decide +kernel
theorem dX7_item_20 : decode cX7_item 20 = .ok (.invokestatic 127, 3) := by decide +kernel
theorem dX7_item_23 : decode cX7_item 23 = .ok (.ifCond .eq 12, 3) := by decide +kernel
theorem dX7_item_26 : decode cX7_item 26 = .ok (.aload_n 0, 1) := by decide +kernel
theorem dX7_item_27 : decode cX7_item 27 = .ok (.getfield 248, 3) := by decide +kernel
theorem dX7_item_30 : decode cX7_item 30 = .ok (.bipush 8, 2) := by decide +kernel
theorem dX7_item_32 : decode cX7_item 32 = .ok (.if_icmp .ne 5, 3) := by decide +kernel
theorem dX7_item_35 : decode cX7_item 35 = .ok (.iconst (-1), 1) := by decide +kernel
theorem dX7_item_36 : decode cX7_item 36 = .ok (.ireturn, 1) := by decide +kernel
theorem dX7_item_37 : decode cX7_item 37 = .ok (.aload_n 0, 1) := by decide +kernel
theorem dX7_item_38 : decode cX7_item 38 = .ok (.getfield 109, 3) := by decide +kernel
theorem dX7_item_41 : decode cX7_item 41 = .ok (.aload_n 0, 1) := by decide +kernel
theorem dX7_item_42 : decode cX7_item 42 = .ok (.getfield 248, 3) := by decide +kernel
theorem dX7_item_45 : decode cX7_item 45 = .ok (.iload_n 1, 1) := by decide +kernel
theorem dX7_item_46 : decode cX7_item 46 = .ok (.iastore, 1) := by decide +kernel
theorem dX7_item_47 : decode cX7_item 47 = .ok (.aload_n 0, 1) := by decide +kernel
theorem dX7_item_48 : decode cX7_item 48 = .ok (.getfield 112, 3) := by decide +kernel
theorem dX7_item_51 : decode cX7_item 51 = .ok (.aload_n 0, 1) := by decide +kernel
theorem dX7_item_52 : decode cX7_item 52 = .ok (.getfield 248, 3) := by decide +kernel
theorem dX7_item_55 : decode cX7_item 55 = .ok (.iload_n 2, 1) := by decide +kernel
theorem dX7_item_56 : decode cX7_item 56 = .ok (.iastore, 1) := by decide +kernel
theorem dX7_item_57 : decode cX7_item 57 = .ok (.aload_n 0, 1) := by decide +kernel
theorem dX7_item_58 : decode cX7_item 58 = .ok (.dup, 1) := by decide +kernel
theorem dX7_item_59 : decode cX7_item 59 = .ok (.getfield 248, 3) := by decide +kernel
theorem dX7_item_62 : decode cX7_item 62 = .ok (.iconst 1, 1) := by decide +kernel
theorem dX7_item_63 : decode cX7_item 63 = .ok (.iadd, 1) := by decide +kernel
theorem dX7_item_64 : decode cX7_item 64 = .ok (.putfield 248, 3) := by decide +kernel
theorem dX7_item_67 : decode cX7_item 67 = .ok (.aload_n 0, 1) := by decide +kernel
theorem dX7_item_68 : decode cX7_item 68 = .ok (.getfield 248, 3) := by decide +kernel
theorem dX7_item_71 : decode cX7_item 71 = .ok (.iconst 1, 1) := by decide +kernel
theorem dX7_item_72 : decode cX7_item 72 = .ok (.isub, 1) := by decide +kernel
theorem dX7_item_73 : decode cX7_item 73 = .ok (.ireturn, 1) := by decide +kernel
theorem dX7_lays_0 : decode cX7_lays 0 = .ok (.aload_n 0, 1) := by decide +kernel
theorem dX7_lays_1 : decode cX7_lays 1 = .ok (.getfield 251, 3) := by decide +kernel
theorem dX7_lays_4 : decode cX7_lays 4 = .ok (.lconst 0, 1) := by decide +kernel
theorem dX7_lays_5 : decode cX7_lays 5 = .ok (.lcmp, 1) := by decide +kernel
theorem dX7_lays_6 : decode cX7_lays 6 = .ok (.ifCond .lt 14, 3) := by decide +kernel
theorem dX7_lays_9 : decode cX7_lays 9 = .ok (.lload 4, 2) := by decide +kernel
theorem dX7_lays_11 : decode cX7_lays 11 = .ok (.aload_n 0, 1) := by decide +kernel
theorem dX7_lays_12 : decode cX7_lays 12 = .ok (.getfield 251, 3) := by decide +kernel
theorem dX7_lays_15 : decode cX7_lays 15 = .ok (.lcmp, 1) := by decide +kernel
theorem dX7_lays_16 : decode cX7_lays 16 = .ok (.ifCond .lt 4, 3) := by decide +kernel
theorem dX7_lays_19 : decode cX7_lays 19 = .ok (.return_, 1) := by decide +kernel
theorem dX7_lays_20 : decode cX7_lays 20 = .ok (.iload_n 1, 1) := by decide +kernel
theorem dX7_lays_21 : decode cX7_lays 21 = .ok (.aload_n 0, 1) := by decide +kernel
theorem dX7_lays_22 : decode cX7_lays 22 = .ok (.getfield 248, 3) := by decide +kernel
theorem dX7_lays_25 : decode cX7_lays 25 = .ok (.if_icmp .ne 42, 3) := by decide +kernel
theorem dX7_lays_28 : decode cX7_lays 28 = .ok (.aload_n 0, 1) := by decide +kernel
theorem dX7_lays_29 : decode cX7_lays 29 = .ok (.lload 4, 2) := by decide +kernel
theorem dX7_lays_31 : decode cX7_lays 31 = .ok (.putfield 251, 3) := by decide +kernel
theorem dX7_lays_34 : decode cX7_lays 34 = .ok (.iconst 0, 1) := by decide +kernel
theorem dX7_lays_35 : decode cX7_lays 35 = .ok (.istore 6, 2) := by decide +kernel
theorem dX7_lays_37 : decode cX7_lays 37 = .ok (.iload 6, 2) := by decide +kernel
theorem dX7_lays_39 : decode cX7_lays 39 = .ok (.aload_n 0, 1) := by decide +kernel
theorem dX7_lays_40 : decode cX7_lays 40 = .ok (.getfield 248, 3) := by decide +kernel
theorem dX7_lays_43 : decode cX7_lays 43 = .ok (.if_icmp .ge 23, 3) := by decide +kernel
theorem dX7_lays_46 : decode cX7_lays 46 = .ok (.aload_n 0, 1) := by decide +kernel
theorem dX7_lays_47 : decode cX7_lays 47 = .ok (.getfield 118, 3) := by decide +kernel
theorem dX7_lays_50 : decode cX7_lays 50 = .ok (.iload 6, 2) := by decide +kernel
theorem dX7_lays_52 : decode cX7_lays 52 = .ok (.aload_n 0, 1) := by decide +kernel
theorem dX7_lays_53 : decode cX7_lays 53 = .ok (.getfield 115, 3) := by decide +kernel
theorem dX7_lays_56 : decode cX7_lays 56 = .ok (.iload 6, 2) := by decide +kernel
theorem dX7_lays_58 : decode cX7_lays 58 = .ok (.iaload, 1) := by decide +kernel
theorem dX7_lays_59 : decode cX7_lays 59 = .ok (.iastore, 1) := by decide +kernel
theorem dX7_lays_60 : decode cX7_lays 60 = .ok (.iinc 6 1, 3) := by decide +kernel
theorem dX7_lays_63 : decode cX7_lays 63 = .ok (.goto (-26), 3) := by decide +kernel
theorem dX7_lays_66 : decode cX7_lays 66 = .ok (.return_, 1) := by decide +kernel
theorem dX7_lays_67 : decode cX7_lays 67 = .ok (.iconst 0, 1) := by decide +kernel
theorem dX7_lays_68 : decode cX7_lays 68 = .ok (.istore 6, 2) := by decide +kernel
theorem dX7_lays_70 : decode cX7_lays 70 = .ok (.iload 6, 2) := by decide +kernel
theorem dX7_lays_72 : decode cX7_lays 72 = .ok (.aload_n 0, 1) := by decide +kernel
theorem dX7_lays_73 : decode cX7_lays 73 = .ok (.getfield 248, 3) := by decide +kernel
theorem dX7_lays_76 : decode cX7_lays 76 = .ok (.if_icmp .ge 121, 3) := by decide +kernel
theorem dX7_lays_79 : decode cX7_lays 79 = .ok (.iload_n 2, 1) := by decide +kernel
theorem dX7_lays_80 : decode cX7_lays 80 = .ok (.iload 6, 2) := by decide +kernel
theorem dX7_lays_82 : decode cX7_lays 82 = .ok (.ishr, 1) := by decide +kernel
theorem dX7_lays_83 : decode cX7_lays 83 = .ok (.iconst 1, 1) := by decide +kernel
theorem dX7_lays_84 : decode cX7_lays 84 = .ok (.iand, 1) := by decide +kernel
theorem dX7_lays_85 : decode cX7_lays 85 = .ok (.iconst 1, 1) := by decide +kernel
theorem dX7_lays_86 : decode cX7_lays 86 = .ok (.if_icmp .ne 6, 3) := by decide +kernel
theorem dX7_lays_89 : decode cX7_lays 89 = .ok (.goto 102, 3) := by decide +kernel
theorem dX7_lays_92 : decode cX7_lays 92 = .ok (.lconst 0, 1) := by decide +kernel
theorem dX7_lays_93 : decode cX7_lays 93 = .ok (.lstore 7, 2) := by decide +kernel
theorem dX7_lays_95 : decode cX7_lays 95 = .ok (.iconst 0, 1) := by decide +kernel
theorem dX7_lays_96 : decode cX7_lays 96 = .ok (.istore 9, 2) := by decide +kernel
theorem dX7_lays_98 : decode cX7_lays 98 = .ok (.iload 9, 2) := by decide +kernel
theorem dX7_lays_100 : decode cX7_lays 100 = .ok (.aload_n 0, 1) := by decide +kernel
theorem dX7_lays_101 : decode cX7_lays 101 = .ok (.getfield 248, 3) := by decide +kernel
theorem dX7_lays_104 : decode cX7_lays 104 = .ok (.if_icmp .ge 52, 3) := by decide +kernel
theorem dX7_lays_107 : decode cX7_lays 107 = .ok (.iload_n 2, 1) := by decide +kernel
theorem dX7_lays_108 : decode cX7_lays 108 = .ok (.iload 9, 2) := by decide +kernel
theorem dX7_lays_110 : decode cX7_lays 110 = .ok (.ishr, 1) := by decide +kernel
theorem dX7_lays_111 : decode cX7_lays 111 = .ok (.iconst 1, 1) := by decide +kernel
theorem dX7_lays_112 : decode cX7_lays 112 = .ok (.iand, 1) := by decide +kernel
theorem dX7_lays_113 : decode cX7_lays 113 = .ok (.iconst 1, 1) := by decide +kernel
theorem dX7_lays_114 : decode cX7_lays 114 = .ok (.if_icmp .ne 36, 3) := by decide +kernel
theorem dX7_lays_117 : decode cX7_lays 117 = .ok (.lload 7, 2) := by decide +kernel
theorem dX7_lays_119 : decode cX7_lays 119 = .ok (.aload_n 0, 1) := by decide +kernel
theorem dX7_lays_120 : decode cX7_lays 120 = .ok (.getfield 112, 3) := by decide +kernel
theorem dX7_lays_123 : decode cX7_lays 123 = .ok (.iload 9, 2) := by decide +kernel
theorem dX7_lays_125 : decode cX7_lays 125 = .ok (.iaload, 1) := by decide +kernel
theorem dX7_lays_126 : decode cX7_lays 126 = .ok (.i2l, 1) := by decide +kernel
theorem dX7_lays_127 : decode cX7_lays 127 = .ok (.aload_n 0, 1) := by decide +kernel
theorem dX7_lays_128 : decode cX7_lays 128 = .ok (.getfield 112, 3) := by decide +kernel
theorem dX7_lays_131 : decode cX7_lays 131 = .ok (.iload 6, 2) := by decide +kernel
theorem dX7_lays_133 : decode cX7_lays 133 = .ok (.iaload, 1) := by decide +kernel
theorem dX7_lays_134 : decode cX7_lays 134 = .ok (.i2l, 1) := by decide +kernel
theorem dX7_lays_135 : decode cX7_lays 135 = .ok (.lmul, 1) := by decide +kernel
theorem dX7_lays_136 : decode cX7_lays 136 = .ok (.iload_n 3, 1) := by decide +kernel
theorem dX7_lays_137 : decode cX7_lays 137 = .ok (.aload_n 0, 1) := by decide +kernel
theorem dX7_lays_138 : decode cX7_lays 138 = .ok (.getfield 115, 3) := by decide +kernel
theorem dX7_lays_141 : decode cX7_lays 141 = .ok (.iload 9, 2) := by decide +kernel
theorem dX7_lays_143 : decode cX7_lays 143 = .ok (.iaload, 1) := by decide +kernel
theorem dX7_lays_144 : decode cX7_lays 144 = .ok (.isub, 1) := by decide +kernel
theorem dX7_lays_145 : decode cX7_lays 145 = .ok (.i2l, 1) := by decide +kernel
theorem dX7_lays_146 : decode cX7_lays 146 = .ok (.lmul, 1) := by decide +kernel
theorem dX7_lays_147 : decode cX7_lays 147 = .ok (.ladd, 1) := by decide +kernel
theorem dX7_lays_148 : decode cX7_lays 148 = .ok (.lstore 7, 2) := by decide +kernel
theorem dX7_lays_150 : decode cX7_lays 150 = .ok (.iinc 9 1, 3) := by decide +kernel
theorem dX7_lays_153 : decode cX7_lays 153 = .ok (.goto (-55), 3) := by decide +kernel
theorem dX7_lays_156 : decode cX7_lays 156 = .ok (.aload_n 0, 1) := by decide +kernel
theorem dX7_lays_157 : decode cX7_lays 157 = .ok (.getfield 115, 3) := by decide +kernel
theorem dX7_lays_160 : decode cX7_lays 160 = .ok (.iload 6, 2) := by decide +kernel
theorem dX7_lays_162 : decode cX7_lays 162 = .ok (.iload_n 3, 1) := by decide +kernel
theorem dX7_lays_163 : decode cX7_lays 163 = .ok (.iastore, 1) := by decide +kernel
theorem dX7_lays_164 : decode cX7_lays 164 = .ok (.aload_n 0, 1) := by decide +kernel
theorem dX7_lays_165 : decode cX7_lays 165 = .ok (.iload_n 1, 1) := by decide +kernel
theorem dX7_lays_166 : decode cX7_lays 166 = .ok (.iconst 1, 1) := by decide +kernel
theorem dX7_lays_167 : decode cX7_lays 167 = .ok (.iadd, 1) := by decide +kernel
theorem dX7_lays_168 : decode cX7_lays 168 = .ok (.iload_n 2, 1) := by decide +kernel
theorem dX7_lays_169 : decode cX7_lays 169 = .ok (.iconst 1, 1) := by decide +kernel
theorem dX7_lays_170 : decode cX7_lays 170 = .ok (.iload 6, 2) := by decide +kernel
theorem dX7_lays_172 : decode cX7_lays 172 = .ok (.ishl, 1) := by decide +kernel
theorem dX7_lays_173 : decode cX7_lays 173 = .ok (.ior, 1) := by decide +kernel
theorem dX7_lays_174 : decode cX7_lays 174 = .ok (.iload_n 3, 1) := by decide +kernel
theorem dX7_lays_175 : decode cX7_lays 175 = .ok (.aload_n 0, 1) := by decide +kernel
theorem dX7_lays_176 : decode cX7_lays 176 = .ok (.getfield 109, 3) := by decide +kernel
theorem dX7_lays_179 : decode cX7_lays 179 = .ok (.iload 6, 2) := by decide +kernel
theorem dX7_lays_181 : decode cX7_lays 181 = .ok (.iaload, 1) := by decide +kernel
theorem dX7_lays_182 : decode cX7_lays 182 = .ok (.iadd, 1) := by decide +kernel
theorem dX7_lays_183 : decode cX7_lays 183 = .ok (.lload 4, 2) := by decide +kernel
theorem dX7_lays_185 : decode cX7_lays 185 = .ok (.lload 7, 2) := by decide +kernel
theorem dX7_lays_187 : decode cX7_lays 187 = .ok (.ladd, 1) := by decide +kernel
theorem dX7_lays_188 : decode cX7_lays 188 = .ok (.invokevirtual 255, 3) := by decide +kernel
theorem dX7_lays_191 : decode cX7_lays 191 = .ok (.iinc 6 1, 3) := by decide +kernel
theorem dX7_lays_194 : decode cX7_lays 194 = .ok (.goto (-124), 3) := by decide +kernel
theorem dX7_lays_197 : decode cX7_lays 197 = .ok (.return_, 1) := by decide +kernel
theorem dX7_lays__0 : decode cX7_lays_ 0 = .ok (.aload_n 0, 1) := by decide +kernel
theorem dX7_lays__1 : decode cX7_lays_ 1 = .ok (.ldc2_w 239, 3) := by decide +kernel
theorem dX7_lays__4 : decode cX7_lays_ 4 = .ok (.putfield 251, 3) := by decide +kernel
theorem dX7_lays__7 : decode cX7_lays_ 7 = .ok (.aload_n 0, 1) := by decide +kernel
theorem dX7_lays__8 : decode cX7_lays_ 8 = .ok (.iconst 0, 1) := by decide +kernel
theorem dX7_lays__9 : decode cX7_lays_ 9 = .ok (.iconst 0, 1) := by decide +kernel
theorem dX7_lays__10 : decode cX7_lays_ 10 = .ok (.iconst 0, 1) := by decide +kernel
theorem dX7_lays__11 : decode cX7_lays_ 11 = .ok (.lconst 0, 1) := by decide +kernel
theorem dX7_lays__12 : decode cX7_lays_ 12 = .ok (.invokevirtual 255, 3) := by decide +kernel
theorem dX7_lays__15 : decode cX7_lays_ 15 = .ok (.return_, 1) := by decide +kernel
theorem dX7_laid_0 : decode cX7_laid 0 = .ok (.aload_n 0, 1) := by decide +kernel
theorem dX7_laid_1 : decode cX7_laid 1 = .ok (.iconst 0, 1) := by decide +kernel
theorem dX7_laid_2 : decode cX7_laid 2 = .ok (.putfield 121, 3) := by decide +kernel
theorem dX7_laid_5 : decode cX7_laid 5 = .ok (.aload_n 0, 1) := by decide +kernel
theorem dX7_laid_6 : decode cX7_laid 6 = .ok (.invokevirtual 259, 3) := by decide +kernel
theorem dX7_laid_9 : decode cX7_laid 9 = .ok (.aload_n 0, 1) := by decide +kernel
theorem dX7_laid_10 : decode cX7_laid 10 = .ok (.getfield 251, 3) := by decide +kernel
theorem dX7_laid_13 : decode cX7_laid 13 = .ok (.lreturn, 1) := by decide +kernel
theorem dX7_begins__0 : decode cX7_begins_ 0 = .ok (.aload_n 0, 1) := by decide +kernel
theorem dX7_begins__1 : decode cX7_begins_ 1 = .ok (.iconst 0, 1) := by decide +kernel
theorem dX7_begins__2 : decode cX7_begins_ 2 = .ok (.putfield 121, 3) := by decide +kernel
theorem dX7_begins__5 : decode cX7_begins_ 5 = .ok (.iload_n 1, 1) := by decide +kernel
theorem dX7_begins__6 : decode cX7_begins_ 6 = .ok (.iconst 0, 1) := by decide +kernel
theorem dX7_begins__7 : decode cX7_begins_ 7 = .ok (.aload_n 0, 1) := by decide +kernel
theorem dX7_begins__8 : decode cX7_begins_ 8 = .ok (.getfield 248, 3) := by decide +kernel
theorem dX7_begins__11 : decode cX7_begins_ 11 = .ok (.iconst 1, 1) := by decide +kernel
theorem dX7_begins__12 : decode cX7_begins_ 12 = .ok (.isub, 1) := by decide +kernel
theorem dX7_begins__13 : decode cX7_begins_ 13 = .ok (.invokestatic 127, 3) := by decide +kernel
theorem dX7_begins__16 : decode cX7_begins_ 16 = .ok (.ifCond .ne 5, 3) := by decide +kernel
theorem dX7_begins__19 : decode cX7_begins_ 19 = .ok (.iconst (-1), 1) := by decide +kernel
theorem dX7_begins__20 : decode cX7_begins_ 20 = .ok (.ireturn, 1) := by decide +kernel
theorem dX7_begins__21 : decode cX7_begins_ 21 = .ok (.aload_n 0, 1) := by decide +kernel
theorem dX7_begins__22 : decode cX7_begins_ 22 = .ok (.invokevirtual 259, 3) := by decide +kernel
theorem dX7_begins__25 : decode cX7_begins_ 25 = .ok (.aload_n 0, 1) := by decide +kernel
theorem dX7_begins__26 : decode cX7_begins_ 26 = .ok (.getfield 118, 3) := by decide +kernel
theorem dX7_begins__29 : decode cX7_begins_ 29 = .ok (.iload_n 1, 1) := by decide +kernel
theorem dX7_begins__30 : decode cX7_begins_ 30 = .ok (.iaload, 1) := by decide +kernel
theorem dX7_begins__31 : decode cX7_begins_ 31 = .ok (.ireturn, 1) := by decide +kernel
theorem dX7_clear_0 : decode cX7_clear 0 = .ok (.aload_n 0, 1) := by decide +kernel
theorem dX7_clear_1 : decode cX7_clear 1 = .ok (.iconst 0, 1) := by decide +kernel
theorem dX7_clear_2 : decode cX7_clear 2 = .ok (.putfield 121, 3) := by decide +kernel
theorem dX7_clear_5 : decode cX7_clear 5 = .ok (.aload_n 0, 1) := by decide +kernel
theorem dX7_clear_6 : decode cX7_clear 6 = .ok (.getfield 248, 3) := by decide +kernel
theorem dX7_clear_9 : decode cX7_clear 9 = .ok (.istore_n 1, 1) := by decide +kernel
theorem dX7_clear_10 : decode cX7_clear 10 = .ok (.aload_n 0, 1) := by decide +kernel
theorem dX7_clear_11 : decode cX7_clear 11 = .ok (.iconst 0, 1) := by decide +kernel
theorem dX7_clear_12 : decode cX7_clear 12 = .ok (.putfield 248, 3) := by decide +kernel
theorem dX7_clear_15 : decode cX7_clear 15 = .ok (.iload_n 1, 1) := by decide +kernel
theorem dX7_clear_16 : decode cX7_clear 16 = .ok (.ireturn, 1) := by decide +kernel
