theorem dX12_thrown_0 : decode cX12_thrown 0 = .ok (.aload_n 0, 1) := by decide +kernel
theorem dX12_thrown_1 : decode cX12_thrown 1 = .ok (.getfield 1, 3) := by decide +kernel
theorem dX12_thrown_4 : decode cX12_thrown 4 = .ok (.ireturn, 1) := by decide +kernel
theorem dX12_feed_0 : decode cX12_feed 0 = .ok (.aload_n 0, 1) := by decide +kernel
theorem dX12_feed_1 : decode cX12_feed 1 = .ok (.iconst 0, 1) := by decide +kernel
theorem dX12_feed_2 : decode cX12_feed 2 = .ok (.putfield 1, 3) := by decide +kernel
theorem dX12_feed_5 : decode cX12_feed 5 = .ok (.aload_n 0, 1) := by decide +kernel
theorem dX12_feed_6 : decode cX12_feed 6 = .ok (.lload_n 1, 1) := by decide +kernel
theorem dX12_feed_7 : decode cX12_feed 7 = .ok (.invokevirtual 7, 3) := by decide +kernel
theorem dX12_feed_10 : decode cX12_feed 10 = .ok (.aload_n 0, 1) := by decide +kernel
theorem dX12_feed_11 : decode cX12_feed 11 = .ok (.lload_n 3, 1) := by decide +kernel
theorem dX12_feed_12 : decode cX12_feed 12 = .ok (.invokevirtual 7, 3) := by decide +kernel
theorem dX12_feed_15 : decode cX12_feed 15 = .ok (.aload_n 0, 1) := by decide +kernel
theorem dX12_feed_16 : decode cX12_feed 16 = .ok (.lload 5, 2) := by decide +kernel
theorem dX12_feed_18 : decode cX12_feed 18 = .ok (.invokevirtual 7, 3) := by decide +kernel
theorem dX12_feed_21 : decode cX12_feed 21 = .ok (.aload_n 0, 1) := by decide +kernel
theorem dX12_feed_22 : decode cX12_feed 22 = .ok (.getfield 11, 3) := by decide +kernel
theorem dX12_feed_25 : decode cX12_feed 25 = .ok (.ireturn, 1) := by decide +kernel
theorem dX12_lay_0 : decode cX12_lay 0 = .ok (.bipush 56, 2) := by decide +kernel
theorem dX12_lay_2 : decode cX12_lay 2 = .ok (.istore_n 3, 1) := by decide +kernel
theorem dX12_lay_3 : decode cX12_lay 3 = .ok (.iload_n 3, 1) := by decide +kernel
theorem dX12_lay_4 : decode cX12_lay 4 = .ok (.ifCond .lt 71, 3) := by decide +kernel
theorem dX12_lay_7 : decode cX12_lay 7 = .ok (.lload_n 1, 1) := by decide +kernel
theorem dX12_lay_8 : decode cX12_lay 8 = .ok (.iload_n 3, 1) := by decide +kernel
theorem dX12_lay_9 : decode cX12_lay 9 = .ok (.lshr, 1) := by decide +kernel
theorem dX12_lay_10 : decode cX12_lay 10 = .ok (.l2i, 1) := by decide +kernel
theorem dX12_lay_11 : decode cX12_lay 11 = .ok (.sipush 255, 3) := by decide +kernel
theorem dX12_lay_14 : decode cX12_lay 14 = .ok (.iand, 1) := by decide +kernel
theorem dX12_lay_15 : decode cX12_lay 15 = .ok (.istore 4, 2) := by decide +kernel
theorem dX12_lay_17 : decode cX12_lay 17 = .ok (.iload 4, 2) := by decide +kernel
theorem dX12_lay_19 : decode cX12_lay 19 = .ok (.bipush 10, 2) := by decide +kernel
theorem dX12_lay_21 : decode cX12_lay 21 = .ok (.if_icmp .eq 17, 3) := by decide +kernel
theorem dX12_lay_24 : decode cX12_lay 24 = .ok (.iload 4, 2) := by decide +kernel
theorem dX12_lay_26 : decode cX12_lay 26 = .ok (.bipush 32, 2) := by decide +kernel
theorem dX12_lay_28 : decode cX12_lay 28 = .ok (.if_icmp .lt 41, 3) := by decide +kernel
theorem dX12_lay_31 : decode cX12_lay 31 = .ok (.iload 4, 2) := by decide +kernel
theorem dX12_lay_33 : decode cX12_lay 33 = .ok (.bipush 126, 2) := by decide +kernel
theorem dX12_lay_35 : decode cX12_lay 35 = .ok (.if_icmp .gt 34, 3) := by decide +kernel
theorem dX12_lay_38 : decode cX12_lay 38 = .ok (.aload_n 0, 1) := by decide +kernel
theorem dX12_lay_39 : decode cX12_lay 39 = .ok (.getfield 11, 3) := by decide +kernel
theorem dX12_lay_42 : decode cX12_lay 42 = .ok (.sipush 1000, 3) := by decide +kernel
theorem dX12_lay_45 : decode cX12_lay 45 = .ok (.if_icmp .ge 24, 3) := by decide +kernel
theorem dX12_lay_48 : decode cX12_lay 48 = .ok (.aload_n 0, 1) := by decide +kernel
theorem dX12_lay_49 : decode cX12_lay 49 = .ok (.getfield 14, 3) := by decide +kernel
theorem dX12_lay_52 : decode cX12_lay 52 = .ok (.aload_n 0, 1) := by decide +kernel
theorem dX12_lay_53 : decode cX12_lay 53 = .ok (.getfield 11, 3) := by decide +kernel
theorem dX12_lay_56 : decode cX12_lay 56 = .ok (.iload 4, 2) := by decide +kernel
theorem dX12_lay_58 : decode cX12_lay 58 = .ok (.iastore, 1) := by decide +kernel
theorem dX12_lay_59 : decode cX12_lay 59 = .ok (.aload_n 0, 1) := by decide +kernel
theorem dX12_lay_60 : decode cX12_lay 60 = .ok (.dup, 1) := by decide +kernel
theorem dX12_lay_61 : decode cX12_lay 61 = .ok (.getfield 11, 3) := by decide +kernel
theorem dX12_lay_64 : decode cX12_lay 64 = .ok (.iconst 1, 1) := by decide +kernel
theorem dX12_lay_65 : decode cX12_lay 65 = .ok (.iadd, 1) := by decide +kernel
theorem dX12_lay_66 : decode cX12_lay 66 = .ok (.putfield 11, 3) := by decide +kernel
theorem dX12_lay_69 : decode cX12_lay 69 = .ok (.iinc 3 (-8), 3) := by decide +kernel
theorem dX12_lay_72 : decode cX12_lay 72 = .ok (.goto (-69), 3) := by decide +kernel
theorem dX12_lay_75 : decode cX12_lay 75 = .ok (.return_, 1) := by decide +kernel
theorem dX12_init_0 : decode cX12_init 0 = .ok (.aload_n 0, 1) := by decide +kernel
theorem dX12_init_1 : decode cX12_init 1 = .ok (.invokespecial 18, 3) := by decide +kernel
theorem dX12_init_4 : decode cX12_init 4 = .ok (.aload_n 0, 1) := by decide +kernel
theorem dX12_init_5 : decode cX12_init 5 = .ok (.sipush 1000, 3) := by decide +kernel
theorem dX12_init_8 : decode cX12_init 8 = .ok (.newarray .int, 2) := by decide +kernel
theorem dX12_init_10 : decode cX12_init 10 = .ok (.putfield 14, 3) := by decide +kernel
theorem dX12_init_13 : decode cX12_init 13 = .ok (.aload_n 0, 1) := by decide +kernel
theorem dX12_init_14 : decode cX12_init 14 = .ok (.sipush 1002, 3) := by decide +kernel
theorem dX12_init_17 : decode cX12_init 17 = .ok (.newarray .int, 2) := by decide +kernel
theorem dX12_init_19 : decode cX12_init 19 = .ok (.putfield 24, 3) := by decide +kernel
theorem dX12_init_22 : decode cX12_init 22 = .ok (.aload_n 0, 1) := by decide +kernel
theorem dX12_init_23 : decode cX12_init 23 = .ok (.sipush 1002, 3) := by decide +kernel
theorem dX12_init_26 : decode cX12_init 26 = .ok (.newarray .int, 2) := by decide +kernel
theorem dX12_init_28 : decode cX12_init 28 = .ok (.putfield 27, 3) := by decide +kernel
theorem dX12_init_31 : decode cX12_init 31 = .ok (.aload_n 0, 1) := by decide +kernel
theorem dX12_init_32 : decode cX12_init 32 = .ok (.sipush 1002, 3) := by decide +kernel
theorem dX12_init_35 : decode cX12_init 35 = .ok (.newarray .long, 2) := by decide +kernel
theorem dX12_init_37 : decode cX12_init 37 = .ok (.putfield 30, 3) := by decide +kernel
theorem dX12_init_40 : decode cX12_init 40 = .ok (.aload_n 0, 1) := by decide +kernel
theorem dX12_init_41 : decode cX12_init 41 = .ok (.bipush 8, 2) := by decide +kernel
theorem dX12_init_43 : decode cX12_init 43 = .ok (.newarray .long, 2) := by decide +kernel
theorem dX12_init_45 : decode cX12_init 45 = .ok (.dup, 1) := by decide +kernel
theorem dX12_init_46 : decode cX12_init 46 = .ok (.iconst 0, 1) := by decide +kernel
theorem dX12_init_47 : decode cX12_init 47 = .ok (.ldc2_w 34, 3) := by decide +kernel
theorem dX12_init_50 : decode cX12_init 50 = .ok (.lastore, 1) := by decide +kernel
theorem dX12_init_51 : decode cX12_init 51 = .ok (.dup, 1) := by decide +kernel
theorem dX12_init_52 : decode cX12_init 52 = .ok (.iconst 1, 1) := by decide +kernel
theorem dX12_init_53 : decode cX12_init 53 = .ok (.ldc2_w 36, 3) := by decide +kernel
theorem dX12_init_56 : decode cX12_init 56 = .ok (.lastore, 1) := by decide +kernel
theorem dX12_init_57 : decode cX12_init 57 = .ok (.dup, 1) := by decide +kernel
theorem dX12_init_58 : decode cX12_init 58 = .ok (.iconst 2, 1) := by decide +kernel
theorem dX12_init_59 : decode cX12_init 59 = .ok (.ldc2_w 38, 3) := by decide +kernel
theorem dX12_init_62 : decode cX12_init 62 = .ok (.lastore, 1) := by decide +kernel
theorem dX12_init_63 : decode cX12_init 63 = .ok (.dup, 1) := by decide +kernel
theorem dX12_init_64 : decode cX12_init 64 = .ok (.iconst 3, 1) := by decide +kernel
theorem dX12_init_65 : decode cX12_init 65 = .ok (.ldc2_w 40, 3) := by decide +kernel
theorem dX12_init_68 : decode cX12_init 68 = .ok (.lastore, 1) := by decide +kernel
theorem dX12_init_69 : decode cX12_init 69 = .ok (.dup, 1) := by decide +kernel
theorem dX12_init_70 : decode cX12_init 70 = .ok (.iconst 4, 1) := by decide +kernel
theorem dX12_init_71 : decode cX12_init 71 = .ok (.ldc2_w 42, 3) := by decide +kernel
theorem dX12_init_74 : decode cX12_init 74 = .ok (.lastore, 1) := by decide +kernel
theorem dX12_init_75 : decode cX12_init 75 = .ok (.dup, 1) := by decide +kernel
theorem dX12_init_76 : decode cX12_init 76 = .ok (.iconst 5, 1) := by decide +kernel
theorem dX12_init_77 : decode cX12_init 77 = .ok (.ldc2_w 44, 3) := by decide +kernel
theorem dX12_init_80 : decode cX12_init 80 = .ok (.lastore, 1) := by decide +kernel
theorem dX12_init_81 : decode cX12_init 81 = .ok (.dup, 1) := by decide +kernel
theorem dX12_init_82 : decode cX12_init 82 = .ok (.bipush 6, 2) := by decide +kernel
theorem dX12_init_84 : decode cX12_init 84 = .ok (.ldc2_w 46, 3) := by decide +kernel
theorem dX12_init_87 : decode cX12_init 87 = .ok (.lastore, 1) := by decide +kernel
theorem dX12_init_88 : decode cX12_init 88 = .ok (.dup, 1) := by decide +kernel
theorem dX12_init_89 : decode cX12_init 89 = .ok (.bipush 7, 2) := by decide +kernel
theorem dX12_init_91 : decode cX12_init 91 = .ok (.ldc2_w 48, 3) := by decide +kernel
theorem dX12_init_94 : decode cX12_init 94 = .ok (.lastore, 1) := by decide +kernel
theorem dX12_init_95 : decode cX12_init 95 = .ok (.putfield 50, 3) := by decide +kernel
theorem dX12_init_98 : decode cX12_init 98 = .ok (.aload_n 0, 1) := by decide +kernel
theorem dX12_init_99 : decode cX12_init 99 = .ok (.iconst 2, 1) := by decide +kernel
theorem dX12_init_100 : decode cX12_init 100 = .ok (.newarray .int, 2) := by decide +kernel
theorem dX12_init_102 : decode cX12_init 102 = .ok (.putfield 53, 3) := by decide +kernel
theorem dX12_init_105 : decode cX12_init 105 = .ok (.aload_n 0, 1) := by decide +kernel
theorem dX12_init_106 : decode cX12_init 106 = .ok (.bipush 10, 2) := by decide +kernel
theorem dX12_init_108 : decode cX12_init 108 = .ok (.newarray .long, 2) := by decide +kernel
theorem dX12_init_110 : decode cX12_init 110 = .ok (.putfield 56, 3) := by decide +kernel
theorem dX12_init_113 : decode cX12_init 113 = .ok (.aload_n 0, 1) := by decide +kernel
theorem dX12_init_114 : decode cX12_init 114 = .ok (.bipush 10, 2) := by decide +kernel
theorem dX12_init_116 : decode cX12_init 116 = .ok (.newarray .int, 2) := by decide +kernel
theorem dX12_init_118 : decode cX12_init 118 = .ok (.putfield 59, 3) := by decide +kernel
theorem dX12_init_121 : decode cX12_init 121 = .ok (.aload_n 0, 1) := by decide +kernel
theorem dX12_init_122 : decode cX12_init 122 = .ok (.bipush 40, 2) := by decide +kernel
theorem dX12_init_124 : decode cX12_init 124 = .ok (.newarray .long, 2) := by decide +kernel
theorem dX12_init_126 : decode cX12_init 126 = .ok (.putfield 62, 3) := by decide +kernel
theorem dX12_init_129 : decode cX12_init 129 = .ok (.aload_n 0, 1) := by decide +kernel
theorem dX12_init_130 : decode cX12_init 130 = .ok (.bipush 40, 2) := by decide +kernel
theorem dX12_init_132 : decode cX12_init 132 = .ok (.newarray .int, 2) := by decide +kernel
theorem dX12_init_134 : decode cX12_init 134 = .ok (.putfield 65, 3) := by decide +kernel
theorem dX12_init_137 : decode cX12_init 137 = .ok (.aload_n 0, 1) := by decide +kernel
theorem dX12_init_138 : decode cX12_init 138 = .ok (.bipush 31, 2) := by decide +kernel
theorem dX12_init_140 : decode cX12_init 140 = .ok (.newarray .int, 2) := by decide +kernel
theorem dX12_init_142 : decode cX12_init 142 = .ok (.putfield 68, 3) := by decide +kernel
theorem dX12_init_145 : decode cX12_init 145 = .ok (.aload_n 0, 1) := by decide +kernel
theorem dX12_init_146 : decode cX12_init 146 = .ok (.bipush 124, 2) := by decide +kernel
theorem dX12_init_148 : decode cX12_init 148 = .ok (.newarray .long, 2) := by decide +kernel
theorem dX12_init_150 : decode cX12_init 150 = .ok (.putfield 71, 3) := by decide +kernel
theorem dX12_init_153 : decode cX12_init 153 = .ok (.aload_n 0, 1) := by decide +kernel
theorem dX12_init_154 : decode cX12_init 154 = .ok (.bipush 8, 2) := by decide +kernel
theorem dX12_init_156 : decode cX12_init 156 = .ok (.newarray .int, 2) := by decide +kernel
theorem dX12_init_158 : decode cX12_init 158 = .ok (.putfield 74, 3) := by decide +kernel
theorem dX12_init_161 : decode cX12_init 161 = .ok (.aload_n 0, 1) := by decide +kernel
theorem dX12_init_162 : decode cX12_init 162 = .ok (.bipush 8, 2) := by decide +kernel
theorem dX12_init_164 : decode cX12_init 164 = .ok (.newarray .long, 2) := by decide +kernel
theorem dX12_init_166 : decode cX12_init 166 = .ok (.putfield 77, 3) := by decide +kernel
theorem dX12_init_169 : decode cX12_init 169 = .ok (.aload_n 0, 1) := by decide +kernel
theorem dX12_init_170 : decode cX12_init 170 = .ok (.iconst 5, 1) := by decide +kernel
theorem dX12_init_171 : decode cX12_init 171 = .ok (.newarray .int, 2) := by decide +kernel
theorem dX12_init_173 : decode cX12_init 173 = .ok (.putfield 80, 3) := by decide +kernel
theorem dX12_init_176 : decode cX12_init 176 = .ok (.aload_n 0, 1) := by decide +kernel
theorem dX12_init_177 : decode cX12_init 177 = .ok (.iconst 5, 1) := by decide +kernel
theorem dX12_init_178 : decode cX12_init 178 = .ok (.newarray .int, 2) := by decide +kernel
theorem dX12_init_180 : decode cX12_init 180 = .ok (.putfield 83, 3) := by decide +kernel
theorem dX12_init_183 : decode cX12_init 183 = .ok (.aload_n 0, 1) := by decide +kernel
theorem dX12_init_184 : decode cX12_init 184 = .ok (.bipush 120, 2) := by decide +kernel
theorem dX12_init_186 : decode cX12_init 186 = .ok (.newarray .boolean, 2) := by decide +kernel
theorem dX12_init_188 : decode cX12_init 188 = .ok (.putfield 86, 3) := by decide +kernel
theorem dX12_init_191 : decode cX12_init 191 = .ok (.aload_n 0, 1) := by decide +kernel
theorem dX12_init_192 : decode cX12_init 192 = .ok (.bipush 20, 2) := by decide +kernel
theorem dX12_init_194 : decode cX12_init 194 = .ok (.newarray .int, 2) := by decide +kernel
theorem dX12_init_196 : decode cX12_init 196 = .ok (.putfield 90, 3) := by decide +kernel
theorem dX12_init_199 : decode cX12_init 199 = .ok (.aload_n 0, 1) := by decide +kernel
theorem dX12_init_200 : decode cX12_init 200 = .ok (.sipush 380, 3) := by decide +kernel
theorem dX12_init_203 : decode cX12_init 203 = .ok (.newarray .int, 2) := by decide +kernel
theorem dX12_init_205 : decode cX12_init 205 = .ok (.putfield 93, 3) := by decide +kernel
theorem dX12_init_208 : decode cX12_init 208 = .ok (.aload_n 0, 1) := by decide +kernel
theorem dX12_init_209 : decode cX12_init 209 = .ok (.sipush 900, 3) := by decide +kernel
theorem dX12_init_212 : decode cX12_init 212 = .ok (.newarray .int, 2) := by decide +kernel
theorem dX12_init_214 : decode cX12_init 214 = .ok (.putfield 96, 3) := by decide +kernel
theorem dX12_init_217 : decode cX12_init 217 = .ok (.aload_n 0, 1) := by decide +kernel
theorem dX12_init_218 : decode cX12_init 218 = .ok (.bipush 30, 2) := by decide +kernel
theorem dX12_init_220 : decode cX12_init 220 = .ok (.newarray .int, 2) := by decide +kernel
theorem dX12_init_222 : decode cX12_init 222 = .ok (.putfield 99, 3) := by decide +kernel
theorem dX12_init_225 : decode cX12_init 225 = .ok (.aload_n 0, 1) := by decide +kernel
theorem dX12_init_226 : decode cX12_init 226 = .ok (.bipush 30, 2) := by decide +kernel
theorem dX12_init_228 : decode cX12_init 228 = .ok (.newarray .int, 2) := by decide +kernel
theorem dX12_init_230 : decode cX12_init 230 = .ok (.putfield 102, 3) := by decide +kernel
theorem dX12_init_233 : decode cX12_init 233 = .ok (.aload_n 0, 1) := by decide +kernel
theorem dX12_init_234 : decode cX12_init 234 = .ok (.bipush 120, 2) := by decide +kernel
theorem dX12_init_236 : decode cX12_init 236 = .ok (.newarray .int, 2) := by decide +kernel
theorem dX12_init_238 : decode cX12_init 238 = .ok (.putfield 105, 3) := by decide +kernel
theorem dX12_init_241 : decode cX12_init 241 = .ok (.aload_n 0, 1) := by decide +kernel
theorem dX12_init_242 : decode cX12_init 242 = .ok (.ldc 108, 2) := by decide +kernel
theorem dX12_init_244 : decode cX12_init 244 = .ok (.newarray .int, 2) := by decide +kernel
theorem dX12_init_246 : decode cX12_init 246 = .ok (.putfield 109, 3) := by decide +kernel
theorem dX12_init_249 : decode cX12_init 249 = .ok (.aload_n 0, 1) := by decide +kernel
theorem dX12_init_250 : decode cX12_init 250 = .ok (.ldc 108, 2) := by decide +kernel
theorem dX12_init_252 : decode cX12_init 252 = .ok (.newarray .int, 2) := by decide +kernel
theorem dX12_init_254 : decode cX12_init 254 = .ok (.putfield 112, 3) := by decide +kernel
theorem dX12_init_257 : decode cX12_init 257 = .ok (.aload_n 0, 1) := by decide +kernel
theorem dX12_init_258 : decode cX12_init 258 = .ok (.ldc 108, 2) := by decide +kernel
theorem dX12_init_260 : decode cX12_init 260 = .ok (.newarray .int, 2) := by decide +kernel
theorem dX12_init_262 : decode cX12_init 262 = .ok (.putfield 115, 3) := by decide +kernel
theorem dX12_init_265 : decode cX12_init 265 = .ok (.aload_n 0, 1) := by decide +kernel
theorem dX12_init_266 : decode cX12_init 266 = .ok (.sipush 200, 3) := by decide +kernel
theorem dX12_init_269 : decode cX12_init 269 = .ok (.newarray .int, 2) := by decide +kernel
theorem dX12_init_271 : decode cX12_init 271 = .ok (.putfield 118, 3) := by decide +kernel
theorem dX12_init_274 : decode cX12_init 274 = .ok (.aload_n 0, 1) := by decide +kernel
theorem dX12_init_275 : decode cX12_init 275 = .ok (.sipush 4099, 3) := by decide +kernel
theorem dX12_init_278 : decode cX12_init 278 = .ok (.newarray .int, 2) := by decide +kernel
theorem dX12_init_280 : decode cX12_init 280 = .ok (.putfield 121, 3) := by decide +kernel
theorem dX12_init_283 : decode cX12_init 283 = .ok (.aload_n 0, 1) := by decide +kernel
theorem dX12_init_284 : decode cX12_init 284 = .ok (.ldc 124, 2) := by decide +kernel
theorem dX12_init_286 : decode cX12_init 286 = .ok (.newarray .int, 2) := by decide +kernel
theorem dX12_init_288 : decode cX12_init 288 = .ok (.putfield 125, 3) := by decide +kernel
theorem dX12_init_291 : decode cX12_init 291 = .ok (.aload_n 0, 1) := by decide +kernel
theorem dX12_init_292 : decode cX12_init 292 = .ok (.ldc 124, 2) := by decide +kernel
theorem dX12_init_294 : decode cX12_init 294 = .ok (.newarray .int, 2) := by decide +kernel
theorem dX12_init_296 : decode cX12_init 296 = .ok (.putfield 128, 3) := by decide +kernel
theorem dX12_init_299 : decode cX12_init 299 = .ok (.aload_n 0, 1) := by decide +kernel
theorem dX12_init_300 : decode cX12_init 300 = .ok (.ldc 124, 2) := by decide +kernel
theorem dX12_init_302 : decode cX12_init 302 = .ok (.newarray .int, 2) := by decide +kernel
theorem dX12_init_304 : decode cX12_init 304 = .ok (.putfield 131, 3) := by decide +kernel
theorem dX12_init_307 : decode cX12_init 307 = .ok (.aload_n 0, 1) := by decide +kernel
theorem dX12_init_308 : decode cX12_init 308 = .ok (.ldc 124, 2) := by decide +kernel
theorem dX12_init_310 : decode cX12_init 310 = .ok (.newarray .int, 2) := by decide +kernel
theorem dX12_init_312 : decode cX12_init 312 = .ok (.putfield 134, 3) := by decide +kernel
theorem dX12_init_315 : decode cX12_init 315 = .ok (.aload_n 0, 1) := by decide +kernel
theorem dX12_init_316 : decode cX12_init 316 = .ok (.sipush 7776, 3) := by decide +kernel
theorem dX12_init_319 : decode cX12_init 319 = .ok (.newarray .int, 2) := by decide +kernel
theorem dX12_init_321 : decode cX12_init 321 = .ok (.putfield 137, 3) := by decide +kernel
theorem dX12_init_324 : decode cX12_init 324 = .ok (.aload_n 0, 1) := by decide +kernel
theorem dX12_init_325 : decode cX12_init 325 = .ok (.sipush 300, 3) := by decide +kernel
theorem dX12_init_328 : decode cX12_init 328 = .ok (.newarray .int, 2) := by decide +kernel
theorem dX12_init_330 : decode cX12_init 330 = .ok (.putfield 140, 3) := by decide +kernel
theorem dX12_init_333 : decode cX12_init 333 = .ok (.aload_n 0, 1) := by decide +kernel
theorem dX12_init_334 : decode cX12_init 334 = .ok (.bipush 40, 2) := by decide +kernel
theorem dX12_init_336 : decode cX12_init 336 = .ok (.newarray .boolean, 2) := by decide +kernel
theorem dX12_init_338 : decode cX12_init 338 = .ok (.putfield 143, 3) := by decide +kernel
theorem dX12_init_341 : decode cX12_init 341 = .ok (.aload_n 0, 1) := by decide +kernel
theorem dX12_init_342 : decode cX12_init 342 = .ok (.bipush 40, 2) := by decide +kernel
theorem dX12_init_344 : decode cX12_init 344 = .ok (.newarray .boolean, 2) := by decide +kernel
theorem dX12_init_346 : decode cX12_init 346 = .ok (.putfield 146, 3) := by decide +kernel
theorem dX12_init_349 : decode cX12_init 349 = .ok (.aload_n 0, 1) := by decide +kernel
theorem dX12_init_350 : decode cX12_init 350 = .ok (.iconst 4, 1) := by decide +kernel
theorem dX12_init_351 : decode cX12_init 351 = .ok (.putfield 149, 3) := by decide +kernel
theorem dX12_init_354 : decode cX12_init 354 = .ok (.aload_n 0, 1) := by decide +kernel
theorem dX12_init_355 : decode cX12_init 355 = .ok (.iconst 1, 1) := by decide +kernel
theorem dX12_init_356 : decode cX12_init 356 = .ok (.putfield 152, 3) := by decide +kernel
theorem dX12_init_359 : decode cX12_init 359 = .ok (.return_, 1) := by decide +kernel
theorem dX12_isLetter_0 : decode cX12_isLetter 0 = .ok (.iload_n 0, 1) := by decide +kernel
theorem dX12_isLetter_1 : decode cX12_isLetter 1 = .ok (.bipush 97, 2) := by decide +kernel
theorem dX12_isLetter_3 : decode cX12_isLetter 3 = .ok (.if_icmp .lt 13, 3) := by decide +kernel
theorem dX12_isLetter_6 : decode cX12_isLetter 6 = .ok (.iload_n 0, 1) := by decide +kernel
theorem dX12_isLetter_7 : decode cX12_isLetter 7 = .ok (.bipush 122, 2) := by decide +kernel
theorem dX12_isLetter_9 : decode cX12_isLetter 9 = .ok (.if_icmp .gt 7, 3) := by decide +kernel
theorem dX12_isLetter_12 : decode cX12_isLetter 12 = .ok (.iconst 1, 1) := by decide +kernel
theorem dX12_isLetter_13 : decode cX12_isLetter 13 = .ok (.goto 4, 3) := by decide +kernel
theorem dX12_isLetter_16 : decode cX12_isLetter 16 = .ok (.iconst 0, 1) := by decide +kernel
theorem dX12_isLetter_17 : decode cX12_isLetter 17 = .ok (.ireturn, 1) := by decide +kernel
theorem dX12_isDigit_0 : decode cX12_isDigit 0 = .ok (.iload_n 0, 1) := by decide +kernel
theorem dX12_isDigit_1 : decode cX12_isDigit 1 = .ok (.bipush 48, 2) := by decide +kernel
theorem dX12_isDigit_3 : decode cX12_isDigit 3 = .ok (.if_icmp .lt 13, 3) := by decide +kernel
theorem dX12_isDigit_6 : decode cX12_isDigit 6 = .ok (.iload_n 0, 1) := by decide +kernel
theorem dX12_isDigit_7 : decode cX12_isDigit 7 = .ok (.bipush 57, 2) := by decide +kernel
theorem dX12_isDigit_9 : decode cX12_isDigit 9 = .ok (.if_icmp .gt 7, 3) := by decide +kernel
theorem dX12_isDigit_12 : decode cX12_isDigit 12 = .ok (.iconst 1, 1) := by decide +kernel
theorem dX12_isDigit_13 : decode cX12_isDigit 13 = .ok (.goto 4, 3) := by decide +kernel
theorem dX12_isDigit_16 : decode cX12_isDigit 16 = .ok (.iconst 0, 1) := by decide +kernel
theorem dX12_isDigit_17 : decode cX12_isDigit 17 = .ok (.ireturn, 1) := by decide +kernel
theorem dX12_rank_0 : decode cX12_rank 0 = .ok (.iload_n 0, 1) := by decide +kernel
theorem dX12_rank_1 : decode cX12_rank 1 = .ok (.bipush 96, 2) := by decide +kernel
theorem dX12_rank_3 : decode cX12_rank 3 = .ok (.isub, 1) := by decide +kernel
theorem dX12_rank_4 : decode cX12_rank 4 = .ok (.ireturn, 1) := by decide +kernel
theorem dX12_isSignOf_0 : decode cX12_isSignOf 0 = .ok (.iload_n 0, 1) := by decide +kernel
theorem dX12_isSignOf_1 : decode cX12_isSignOf 1 = .ok (.bipush 44, 2) := by decide +kernel
theorem dX12_isSignOf_3 : decode cX12_isSignOf 3 = .ok (.if_icmp .eq 15, 3) := by decide +kernel
theorem dX12_isSignOf_6 : decode cX12_isSignOf 6 = .ok (.iload_n 0, 1) := by decide +kernel
theorem dX12_isSignOf_7 : decode cX12_isSignOf 7 = .ok (.bipush 58, 2) := by decide +kernel
theorem dX12_isSignOf_9 : decode cX12_isSignOf 9 = .ok (.if_icmp .eq 9, 3) := by decide +kernel
theorem dX12_isSignOf_12 : decode cX12_isSignOf 12 = .ok (.iload_n 0, 1) := by decide +kernel
theorem dX12_isSignOf_13 : decode cX12_isSignOf 13 = .ok (.bipush 59, 2) := by decide +kernel
theorem dX12_isSignOf_15 : decode cX12_isSignOf 15 = .ok (.if_icmp .ne 7, 3) := by decide +kernel
theorem dX12_isSignOf_18 : decode cX12_isSignOf 18 = .ok (.iconst 1, 1) := by decide +kernel
theorem dX12_isSignOf_19 : decode cX12_isSignOf 19 = .ok (.goto 4, 3) := by decide +kernel
theorem dX12_isSignOf_22 : decode cX12_isSignOf 22 = .ok (.iconst 0, 1) := by decide +kernel
theorem dX12_isSignOf_23 : decode cX12_isSignOf 23 = .ok (.ireturn, 1) := by decide +kernel
theorem dX12_cutAll_0 : decode cX12_cutAll 0 = .ok (.aload_n 0, 1) := by decide +kernel
theorem dX12_cutAll_1 : decode cX12_cutAll 1 = .ok (.aload_n 0, 1) := by decide +kernel
theorem dX12_cutAll_2 : decode cX12_cutAll 2 = .ok (.getfield 11, 3) := by decide +kernel
theorem dX12_cutAll_5 : decode cX12_cutAll 5 = .ok (.putfield 156, 3) := by decide +kernel
theorem dX12_cutAll_8 : decode cX12_cutAll 8 = .ok (.aload_n 0, 1) := by decide +kernel
theorem dX12_cutAll_9 : decode cX12_cutAll 9 = .ok (.iconst 0, 1) := by decide +kernel
theorem dX12_cutAll_10 : decode cX12_cutAll 10 = .ok (.putfield 11, 3) := by decide +kernel
theorem dX12_cutAll_13 : decode cX12_cutAll 13 = .ok (.iconst 0, 1) := by decide +kernel
theorem dX12_cutAll_14 : decode cX12_cutAll 14 = .ok (.istore_n 1, 1) := by decide +kernel
theorem dX12_cutAll_15 : decode cX12_cutAll 15 = .ok (.iconst 0, 1) := by decide +kernel
theorem dX12_cutAll_16 : decode cX12_cutAll 16 = .ok (.istore_n 2, 1) := by decide +kernel
theorem dX12_cutAll_17 : decode cX12_cutAll 17 = .ok (.iload_n 2, 1) := by decide +kernel
theorem dX12_cutAll_18 : decode cX12_cutAll 18 = .ok (.aload_n 0, 1) := by decide +kernel
theorem dX12_cutAll_19 : decode cX12_cutAll 19 = .ok (.getfield 156, 3) := by decide +kernel
theorem dX12_cutAll_22 : decode cX12_cutAll 22 = .ok (.if_icmp .ge 257, 3) := by decide +kernel
theorem dX12_cutAll_25 : decode cX12_cutAll 25 = .ok (.aload_n 0, 1) := by decide +kernel
theorem dX12_cutAll_26 : decode cX12_cutAll 26 = .ok (.getfield 14, 3) := by decide +kernel
theorem dX12_cutAll_29 : decode cX12_cutAll 29 = .ok (.iload_n 2, 1) := by decide +kernel
theorem dX12_cutAll_30 : decode cX12_cutAll 30 = .ok (.iaload, 1) := by decide +kernel
theorem dX12_cutAll_31 : decode cX12_cutAll 31 = .ok (.istore_n 3, 1) := by decide +kernel
theorem dX12_cutAll_32 : decode cX12_cutAll 32 = .ok (.iload_n 3, 1) := by decide +kernel
theorem dX12_cutAll_33 : decode cX12_cutAll 33 = .ok (.bipush 10, 2) := by decide +kernel
theorem dX12_cutAll_35 : decode cX12_cutAll 35 = .ok (.if_icmp .eq 9, 3) := by decide +kernel
theorem dX12_cutAll_38 : decode cX12_cutAll 38 = .ok (.iload_n 3, 1) := by decide +kernel
theorem dX12_cutAll_39 : decode cX12_cutAll 39 = .ok (.bipush 32, 2) := by decide +kernel
theorem dX12_cutAll_41 : decode cX12_cutAll 41 = .ok (.if_icmp .ne 9, 3) := by decide +kernel
theorem dX12_cutAll_44 : decode cX12_cutAll 44 = .ok (.iinc 2 1, 3) := by decide +kernel
theorem dX12_cutAll_47 : decode cX12_cutAll 47 = .ok (.goto (-30), 3) := by decide +kernel
theorem dX12_cutAll_50 : decode cX12_cutAll 50 = .ok (.iload_n 2, 1) := by decide +kernel
theorem dX12_cutAll_51 : decode cX12_cutAll 51 = .ok (.istore 4, 2) := by decide +kernel
theorem dX12_cutAll_53 : decode cX12_cutAll 53 = .ok (.lconst 0, 1) := by decide +kernel
theorem dX12_cutAll_54 : decode cX12_cutAll 54 = .ok (.lstore 5, 2) := by decide +kernel
theorem dX12_cutAll_56 : decode cX12_cutAll 56 = .ok (.aload_n 0, 1) := by decide +kernel
theorem dX12_cutAll_57 : decode cX12_cutAll 57 = .ok (.getfield 27, 3) := by decide +kernel
theorem dX12_cutAll_60 : decode cX12_cutAll 60 = .ok (.iload_n 1, 1) := by decide +kernel
theorem dX12_cutAll_61 : decode cX12_cutAll 61 = .ok (.iload_n 2, 1) := by decide +kernel
theorem dX12_cutAll_62 : decode cX12_cutAll 62 = .ok (.iastore, 1) := by decide +kernel
theorem dX12_cutAll_63 : decode cX12_cutAll 63 = .ok (.iload_n 3, 1) := by decide +kernel
theorem dX12_cutAll_64 : decode cX12_cutAll 64 = .ok (.invokestatic 159, 3) := by decide +kernel
theorem dX12_cutAll_67 : decode cX12_cutAll 67 = .ok (.ifCond .eq 85, 3) := by decide +kernel
theorem dX12_cutAll_70 : decode cX12_cutAll 70 = .ok (.iload_n 2, 1) := by decide +kernel
theorem dX12_cutAll_71 : decode cX12_cutAll 71 = .ok (.aload_n 0, 1) := by decide +kernel
theorem dX12_cutAll_72 : decode cX12_cutAll 72 = .ok (.getfield 156, 3) := by decide +kernel
theorem dX12_cutAll_75 : decode cX12_cutAll 75 = .ok (.if_icmp .ge 54, 3) := by decide +kernel
theorem dX12_cutAll_78 : decode cX12_cutAll 78 = .ok (.aload_n 0, 1) := by decide +kernel
theorem dX12_cutAll_79 : decode cX12_cutAll 79 = .ok (.getfield 14, 3) := by decide +kernel
theorem dX12_cutAll_82 : decode cX12_cutAll 82 = .ok (.iload_n 2, 1) := by decide +kernel
theorem dX12_cutAll_83 : decode cX12_cutAll 83 = .ok (.iaload, 1) := by decide +kernel
theorem dX12_cutAll_84 : decode cX12_cutAll 84 = .ok (.invokestatic 159, 3) := by decide +kernel
theorem dX12_cutAll_87 : decode cX12_cutAll 87 = .ok (.ifCond .eq 42, 3) := by decide +kernel
theorem dX12_cutAll_90 : decode cX12_cutAll 90 = .ok (.iload_n 2, 1) := by decide +kernel
theorem dX12_cutAll_91 : decode cX12_cutAll 91 = .ok (.iload 4, 2) := by decide +kernel
theorem dX12_cutAll_93 : decode cX12_cutAll 93 = .ok (.isub, 1) := by decide +kernel
theorem dX12_cutAll_94 : decode cX12_cutAll 94 = .ok (.bipush 8, 2) := by decide +kernel
theorem dX12_cutAll_96 : decode cX12_cutAll 96 = .ok (.if_icmp .ge 23, 3) := by decide +kernel
theorem dX12_cutAll_99 : decode cX12_cutAll 99 = .ok (.ldc2_w 163, 3) := by decide +kernel
theorem dX12_cutAll_102 : decode cX12_cutAll 102 = .ok (.lload 5, 2) := by decide +kernel
theorem dX12_cutAll_104 : decode cX12_cutAll 104 = .ok (.lmul, 1) := by decide +kernel
theorem dX12_cutAll_105 : decode cX12_cutAll 105 = .ok (.aload_n 0, 1) := by decide +kernel
theorem dX12_cutAll_106 : decode cX12_cutAll 106 = .ok (.getfield 14, 3) := by decide +kernel
theorem dX12_cutAll_109 : decode cX12_cutAll 109 = .ok (.iload_n 2, 1) := by decide +kernel
theorem dX12_cutAll_110 : decode cX12_cutAll 110 = .ok (.iaload, 1) := by decide +kernel
theorem dX12_cutAll_111 : decode cX12_cutAll 111 = .ok (.invokestatic 165, 3) := by decide +kernel
theorem dX12_cutAll_114 : decode cX12_cutAll 114 = .ok (.i2l, 1) := by decide +kernel
theorem dX12_cutAll_115 : decode cX12_cutAll 115 = .ok (.ladd, 1) := by decide +kernel
theorem dX12_cutAll_116 : decode cX12_cutAll 116 = .ok (.goto 5, 3) := by decide +kernel
theorem dX12_cutAll_119 : decode cX12_cutAll 119 = .ok (.lload 5, 2) := by decide +kernel
theorem dX12_cutAll_121 : decode cX12_cutAll 121 = .ok (.lstore 5, 2) := by decide +kernel
theorem dX12_cutAll_123 : decode cX12_cutAll 123 = .ok (.iinc 2 1, 3) := by decide +kernel
theorem dX12_cutAll_126 : decode cX12_cutAll 126 = .ok (.goto (-56), 3) := by decide +kernel
theorem dX12_cutAll_129 : decode cX12_cutAll 129 = .ok (.aload_n 0, 1) := by decide +kernel
theorem dX12_cutAll_130 : decode cX12_cutAll 130 = .ok (.getfield 24, 3) := by decide +kernel
theorem dX12_cutAll_133 : decode cX12_cutAll 133 = .ok (.iload_n 1, 1) := by decide +kernel
theorem dX12_cutAll_134 : decode cX12_cutAll 134 = .ok (.iload_n 2, 1) := by decide +kernel
theorem dX12_cutAll_135 : decode cX12_cutAll 135 = .ok (.iload 4, 2) := by decide +kernel
theorem dX12_cutAll_137 : decode cX12_cutAll 137 = .ok (.isub, 1) := by decide +kernel
theorem dX12_cutAll_138 : decode cX12_cutAll 138 = .ok (.bipush 8, 2) := by decide +kernel
theorem dX12_cutAll_140 : decode cX12_cutAll 140 = .ok (.if_icmp .le 7, 3) := by decide +kernel
theorem dX12_cutAll_143 : decode cX12_cutAll 143 = .ok (.iconst 4, 1) := by decide +kernel
theorem dX12_cutAll_144 : decode cX12_cutAll 144 = .ok (.goto 4, 3) := by decide +kernel
theorem dX12_cutAll_147 : decode cX12_cutAll 147 = .ok (.iconst 1, 1) := by decide +kernel
theorem dX12_cutAll_148 : decode cX12_cutAll 148 = .ok (.iastore, 1) := by decide +kernel
theorem dX12_cutAll_149 : decode cX12_cutAll 149 = .ok (.goto 116, 3) := by decide +kernel
theorem dX12_cutAll_152 : decode cX12_cutAll 152 = .ok (.iload_n 3, 1) := by decide +kernel
theorem dX12_cutAll_153 : decode cX12_cutAll 153 = .ok (.invokestatic 169, 3) := by decide +kernel
theorem dX12_cutAll_156 : decode cX12_cutAll 156 = .ok (.ifCond .eq 84, 3) := by decide +kernel
theorem dX12_cutAll_159 : decode cX12_cutAll 159 = .ok (.iload_n 2, 1) := by decide +kernel
theorem dX12_cutAll_160 : decode cX12_cutAll 160 = .ok (.aload_n 0, 1) := by decide +kernel
theorem dX12_cutAll_161 : decode cX12_cutAll 161 = .ok (.getfield 156, 3) := by decide +kernel
theorem dX12_cutAll_164 : decode cX12_cutAll 164 = .ok (.if_icmp .ge 54, 3) := by decide +kernel
theorem dX12_cutAll_167 : decode cX12_cutAll 167 = .ok (.aload_n 0, 1) := by decide +kernel
theorem dX12_cutAll_168 : decode cX12_cutAll 168 = .ok (.getfield 14, 3) := by decide +kernel
theorem dX12_cutAll_171 : decode cX12_cutAll 171 = .ok (.iload_n 2, 1) := by decide +kernel
theorem dX12_cutAll_172 : decode cX12_cutAll 172 = .ok (.iaload, 1) := by decide +kernel
theorem dX12_cutAll_173 : decode cX12_cutAll 173 = .ok (.invokestatic 169, 3) := by decide +kernel
theorem dX12_cutAll_176 : decode cX12_cutAll 176 = .ok (.ifCond .eq 42, 3) := by decide +kernel
theorem dX12_cutAll_179 : decode cX12_cutAll 179 = .ok (.iload_n 2, 1) := by decide +kernel
theorem dX12_cutAll_180 : decode cX12_cutAll 180 = .ok (.iload 4, 2) := by decide +kernel
theorem dX12_cutAll_182 : decode cX12_cutAll 182 = .ok (.isub, 1) := by decide +kernel
theorem dX12_cutAll_183 : decode cX12_cutAll 183 = .ok (.iconst 4, 1) := by decide +kernel
theorem dX12_cutAll_184 : decode cX12_cutAll 184 = .ok (.if_icmp .ge 24, 3) := by decide +kernel
theorem dX12_cutAll_187 : decode cX12_cutAll 187 = .ok (.ldc2_w 172, 3) := by decide +kernel
theorem dX12_cutAll_190 : decode cX12_cutAll 190 = .ok (.lload 5, 2) := by decide +kernel
theorem dX12_cutAll_192 : decode cX12_cutAll 192 = .ok (.lmul, 1) := by decide +kernel
theorem dX12_cutAll_193 : decode cX12_cutAll 193 = .ok (.aload_n 0, 1) := by decide +kernel
theorem dX12_cutAll_194 : decode cX12_cutAll 194 = .ok (.getfield 14, 3) := by decide +kernel
theorem dX12_cutAll_197 : decode cX12_cutAll 197 = .ok (.iload_n 2, 1) := by decide +kernel
theorem dX12_cutAll_198 : decode cX12_cutAll 198 = .ok (.iaload, 1) := by decide +kernel
theorem dX12_cutAll_199 : decode cX12_cutAll 199 = .ok (.i2l, 1) := by decide +kernel
theorem dX12_cutAll_200 : decode cX12_cutAll 200 = .ok (.ladd, 1) := by decide +kernel
theorem dX12_cutAll_201 : decode cX12_cutAll 201 = .ok (.ldc2_w 174, 3) := by decide +kernel
theorem dX12_cutAll_204 : decode cX12_cutAll 204 = .ok (.lsub, 1) := by decide +kernel
theorem dX12_cutAll_205 : decode cX12_cutAll 205 = .ok (.goto 5, 3) := by decide +kernel
theorem dX12_cutAll_208 : decode cX12_cutAll 208 = .ok (.lload 5, 2) := by decide +kernel
theorem dX12_cutAll_210 : decode cX12_cutAll 210 = .ok (.lstore 5, 2) := by decide +kernel
theorem dX12_cutAll_212 : decode cX12_cutAll 212 = .ok (.iinc 2 1, 3) := by decide +kernel
theorem dX12_cutAll_215 : decode cX12_cutAll 215 = .ok (.goto (-56), 3) := by decide +kernel
theorem dX12_cutAll_218 : decode cX12_cutAll 218 = .ok (.aload_n 0, 1) := by decide +kernel
theorem dX12_cutAll_219 : decode cX12_cutAll 219 = .ok (.getfield 24, 3) := by decide +kernel
theorem dX12_cutAll_222 : decode cX12_cutAll 222 = .ok (.iload_n 1, 1) := by decide +kernel
theorem dX12_cutAll_223 : decode cX12_cutAll 223 = .ok (.iload_n 2, 1) := by decide +kernel
theorem dX12_cutAll_224 : decode cX12_cutAll 224 = .ok (.iload 4, 2) := by decide +kernel
theorem dX12_cutAll_226 : decode cX12_cutAll 226 = .ok (.isub, 1) := by decide +kernel
theorem dX12_cutAll_227 : decode cX12_cutAll 227 = .ok (.iconst 4, 1) := by decide +kernel
theorem dX12_cutAll_228 : decode cX12_cutAll 228 = .ok (.if_icmp .le 7, 3) := by decide +kernel
theorem dX12_cutAll_231 : decode cX12_cutAll 231 = .ok (.iconst 4, 1) := by decide +kernel
theorem dX12_cutAll_232 : decode cX12_cutAll 232 = .ok (.goto 4, 3) := by decide +kernel
theorem dX12_cutAll_235 : decode cX12_cutAll 235 = .ok (.iconst 2, 1) := by decide +kernel
theorem dX12_cutAll_236 : decode cX12_cutAll 236 = .ok (.iastore, 1) := by decide +kernel
theorem dX12_cutAll_237 : decode cX12_cutAll 237 = .ok (.goto 28, 3) := by decide +kernel
theorem dX12_cutAll_240 : decode cX12_cutAll 240 = .ok (.iload_n 3, 1) := by decide +kernel
theorem dX12_cutAll_241 : decode cX12_cutAll 241 = .ok (.i2l, 1) := by decide +kernel
theorem dX12_cutAll_242 : decode cX12_cutAll 242 = .ok (.lstore 5, 2) := by decide +kernel
theorem dX12_cutAll_244 : decode cX12_cutAll 244 = .ok (.aload_n 0, 1) := by decide +kernel
theorem dX12_cutAll_245 : decode cX12_cutAll 245 = .ok (.getfield 24, 3) := by decide +kernel
theorem dX12_cutAll_248 : decode cX12_cutAll 248 = .ok (.iload_n 1, 1) := by decide +kernel
theorem dX12_cutAll_249 : decode cX12_cutAll 249 = .ok (.iload_n 3, 1) := by decide +kernel
theorem dX12_cutAll_250 : decode cX12_cutAll 250 = .ok (.invokestatic 176, 3) := by decide +kernel
theorem dX12_cutAll_253 : decode cX12_cutAll 253 = .ok (.ifCond .eq 7, 3) := by decide +kernel
theorem dX12_cutAll_256 : decode cX12_cutAll 256 = .ok (.iconst 3, 1) := by decide +kernel
theorem dX12_cutAll_257 : decode cX12_cutAll 257 = .ok (.goto 4, 3) := by decide +kernel
theorem dX12_cutAll_260 : decode cX12_cutAll 260 = .ok (.iconst 4, 1) := by decide +kernel
theorem dX12_cutAll_261 : decode cX12_cutAll 261 = .ok (.iastore, 1) := by decide +kernel
theorem dX12_cutAll_262 : decode cX12_cutAll 262 = .ok (.iinc 2 1, 3) := by decide +kernel
theorem dX12_cutAll_265 : decode cX12_cutAll 265 = .ok (.aload_n 0, 1) := by decide +kernel
theorem dX12_cutAll_266 : decode cX12_cutAll 266 = .ok (.getfield 30, 3) := by decide +kernel
theorem dX12_cutAll_269 : decode cX12_cutAll 269 = .ok (.iload_n 1, 1) := by decide +kernel
theorem dX12_cutAll_270 : decode cX12_cutAll 270 = .ok (.lload 5, 2) := by decide +kernel
theorem dX12_cutAll_272 : decode cX12_cutAll 272 = .ok (.lastore, 1) := by decide +kernel
theorem dX12_cutAll_273 : decode cX12_cutAll 273 = .ok (.iinc 1 1, 3) := by decide +kernel
theorem dX12_cutAll_276 : decode cX12_cutAll 276 = .ok (.goto (-259), 3) := by decide +kernel
theorem dX12_cutAll_279 : decode cX12_cutAll 279 = .ok (.aload_n 0, 1) := by decide +kernel
theorem dX12_cutAll_280 : decode cX12_cutAll 280 = .ok (.getfield 24, 3) := by decide +kernel
theorem dX12_cutAll_283 : decode cX12_cutAll 283 = .ok (.iload_n 1, 1) := by decide +kernel
theorem dX12_cutAll_284 : decode cX12_cutAll 284 = .ok (.iconst 0, 1) := by decide +kernel
theorem dX12_cutAll_285 : decode cX12_cutAll 285 = .ok (.iastore, 1) := by decide +kernel
theorem dX12_cutAll_286 : decode cX12_cutAll 286 = .ok (.aload_n 0, 1) := by decide +kernel
theorem dX12_cutAll_287 : decode cX12_cutAll 287 = .ok (.getfield 27, 3) := by decide +kernel
theorem dX12_cutAll_290 : decode cX12_cutAll 290 = .ok (.iload_n 1, 1) := by decide +kernel
theorem dX12_cutAll_291 : decode cX12_cutAll 291 = .ok (.aload_n 0, 1) := by decide +kernel
theorem dX12_cutAll_292 : decode cX12_cutAll 292 = .ok (.getfield 156, 3) := by decide +kernel
theorem dX12_cutAll_295 : decode cX12_cutAll 295 = .ok (.iastore, 1) := by decide +kernel
theorem dX12_cutAll_296 : decode cX12_cutAll 296 = .ok (.aload_n 0, 1) := by decide +kernel
theorem dX12_cutAll_297 : decode cX12_cutAll 297 = .ok (.iconst 0, 1) := by decide +kernel
theorem dX12_cutAll_298 : decode cX12_cutAll 298 = .ok (.putfield 179, 3) := by decide +kernel
theorem dX12_cutAll_301 : decode cX12_cutAll 301 = .ok (.aload_n 0, 1) := by decide +kernel
theorem dX12_cutAll_302 : decode cX12_cutAll 302 = .ok (.iconst 0, 1) := by decide +kernel
theorem dX12_cutAll_303 : decode cX12_cutAll 303 = .ok (.putfield 182, 3) := by decide +kernel
theorem dX12_cutAll_306 : decode cX12_cutAll 306 = .ok (.return_, 1) := by decide +kernel
theorem dX12_wrong_0 : decode cX12_wrong 0 = .ok (.aload_n 0, 1) := by decide +kernel
theorem dX12_wrong_1 : decode cX12_wrong 1 = .ok (.getfield 182, 3) := by decide +kernel
theorem dX12_wrong_4 : decode cX12_wrong 4 = .ok (.ifCond .ne 21, 3) := by decide +kernel
theorem dX12_wrong_7 : decode cX12_wrong 7 = .ok (.aload_n 0, 1) := by decide +kernel
theorem dX12_wrong_8 : decode cX12_wrong 8 = .ok (.iload_n 1, 1) := by decide +kernel
theorem dX12_wrong_9 : decode cX12_wrong 9 = .ok (.bipush 16, 2) := by decide +kernel
theorem dX12_wrong_11 : decode cX12_wrong 11 = .ok (.aload_n 0, 1) := by decide +kernel
theorem dX12_wrong_12 : decode cX12_wrong 12 = .ok (.getfield 27, 3) := by decide +kernel
theorem dX12_wrong_15 : decode cX12_wrong 15 = .ok (.aload_n 0, 1) := by decide +kernel
theorem dX12_wrong_16 : decode cX12_wrong 16 = .ok (.getfield 179, 3) := by decide +kernel
theorem dX12_wrong_19 : decode cX12_wrong 19 = .ok (.iaload, 1) := by decide +kernel
theorem dX12_wrong_20 : decode cX12_wrong 20 = .ok (.imul, 1) := by decide +kernel
theorem dX12_wrong_21 : decode cX12_wrong 21 = .ok (.iadd, 1) := by decide +kernel
theorem dX12_wrong_22 : decode cX12_wrong 22 = .ok (.putfield 182, 3) := by decide +kernel
theorem dX12_wrong_25 : decode cX12_wrong 25 = .ok (.return_, 1) := by decide +kernel
theorem dX12_isSign_0 : decode cX12_isSign 0 = .ok (.aload_n 0, 1) := by decide +kernel
theorem dX12_isSign_1 : decode cX12_isSign 1 = .ok (.getfield 182, 3) := by decide +kernel
theorem dX12_isSign_4 : decode cX12_isSign 4 = .ok (.ifCond .ne 35, 3) := by decide +kernel
theorem dX12_isSign_7 : decode cX12_isSign 7 = .ok (.aload_n 0, 1) := by decide +kernel
theorem dX12_isSign_8 : decode cX12_isSign 8 = .ok (.getfield 24, 3) := by decide +kernel
theorem dX12_isSign_11 : decode cX12_isSign 11 = .ok (.aload_n 0, 1) := by decide +kernel
theorem dX12_isSign_12 : decode cX12_isSign 12 = .ok (.getfield 179, 3) := by decide +kernel
theorem dX12_isSign_15 : decode cX12_isSign 15 = .ok (.iaload, 1) := by decide +kernel
theorem dX12_isSign_16 : decode cX12_isSign 16 = .ok (.iconst 3, 1) := by decide +kernel
theorem dX12_isSign_17 : decode cX12_isSign 17 = .ok (.if_icmp .ne 22, 3) := by decide +kernel
theorem dX12_isSign_20 : decode cX12_isSign 20 = .ok (.aload_n 0, 1) := by decide +kernel
theorem dX12_isSign_21 : decode cX12_isSign 21 = .ok (.getfield 30, 3) := by decide +kernel
theorem dX12_isSign_24 : decode cX12_isSign 24 = .ok (.aload_n 0, 1) := by decide +kernel
theorem dX12_isSign_25 : decode cX12_isSign 25 = .ok (.getfield 179, 3) := by decide +kernel
theorem dX12_isSign_28 : decode cX12_isSign 28 = .ok (.laload, 1) := by decide +kernel
theorem dX12_isSign_29 : decode cX12_isSign 29 = .ok (.iload_n 1, 1) := by decide +kernel
theorem dX12_isSign_30 : decode cX12_isSign 30 = .ok (.i2l, 1) := by decide +kernel
theorem dX12_isSign_31 : decode cX12_isSign 31 = .ok (.lcmp, 1) := by decide +kernel
theorem dX12_isSign_32 : decode cX12_isSign 32 = .ok (.ifCond .ne 7, 3) := by decide +kernel
theorem dX12_isSign_35 : decode cX12_isSign 35 = .ok (.iconst 1, 1) := by decide +kernel
theorem dX12_isSign_36 : decode cX12_isSign 36 = .ok (.goto 4, 3) := by decide +kernel
theorem dX12_isSign_39 : decode cX12_isSign 39 = .ok (.iconst 0, 1) := by decide +kernel
theorem dX12_isSign_40 : decode cX12_isSign 40 = .ok (.ireturn, 1) := by decide +kernel
theorem dX12_isWord_0 : decode cX12_isWord 0 = .ok (.aload_n 0, 1) := by decide +kernel
theorem dX12_isWord_1 : decode cX12_isWord 1 = .ok (.getfield 182, 3) := by decide +kernel
theorem dX12_isWord_4 : decode cX12_isWord 4 = .ok (.ifCond .ne 39, 3) := by decide +kernel
theorem dX12_isWord_7 : decode cX12_isWord 7 = .ok (.aload_n 0, 1) := by decide +kernel
theorem dX12_isWord_8 : decode cX12_isWord 8 = .ok (.getfield 24, 3) := by decide +kernel
theorem dX12_isWord_11 : decode cX12_isWord 11 = .ok (.aload_n 0, 1) := by decide +kernel
theorem dX12_isWord_12 : decode cX12_isWord 12 = .ok (.getfield 179, 3) := by decide +kernel
theorem dX12_isWord_15 : decode cX12_isWord 15 = .ok (.iaload, 1) := by decide +kernel
theorem dX12_isWord_16 : decode cX12_isWord 16 = .ok (.iconst 1, 1) := by decide +kernel
theorem dX12_isWord_17 : decode cX12_isWord 17 = .ok (.if_icmp .ne 26, 3) := by decide +kernel
theorem dX12_isWord_20 : decode cX12_isWord 20 = .ok (.aload_n 0, 1) := by decide +kernel
theorem dX12_isWord_21 : decode cX12_isWord 21 = .ok (.getfield 30, 3) := by decide +kernel
theorem dX12_isWord_24 : decode cX12_isWord 24 = .ok (.aload_n 0, 1) := by decide +kernel
theorem dX12_isWord_25 : decode cX12_isWord 25 = .ok (.getfield 179, 3) := by decide +kernel
theorem dX12_isWord_28 : decode cX12_isWord 28 = .ok (.laload, 1) := by decide +kernel
theorem dX12_isWord_29 : decode cX12_isWord 29 = .ok (.aload_n 0, 1) := by decide +kernel
theorem dX12_isWord_30 : decode cX12_isWord 30 = .ok (.getfield 50, 3) := by decide +kernel
theorem dX12_isWord_33 : decode cX12_isWord 33 = .ok (.iload_n 1, 1) := by decide +kernel
theorem dX12_isWord_34 : decode cX12_isWord 34 = .ok (.laload, 1) := by decide +kernel
theorem dX12_isWord_35 : decode cX12_isWord 35 = .ok (.lcmp, 1) := by decide +kernel
theorem dX12_isWord_36 : decode cX12_isWord 36 = .ok (.ifCond .ne 7, 3) := by decide +kernel
theorem dX12_isWord_39 : decode cX12_isWord 39 = .ok (.iconst 1, 1) := by decide +kernel
theorem dX12_isWord_40 : decode cX12_isWord 40 = .ok (.goto 4, 3) := by decide +kernel
theorem dX12_isWord_43 : decode cX12_isWord 43 = .ok (.iconst 0, 1) := by decide +kernel
theorem dX12_isWord_44 : decode cX12_isWord 44 = .ok (.ireturn, 1) := by decide +kernel
theorem dX12_takeSign_0 : decode cX12_takeSign 0 = .ok (.aload_n 0, 1) := by decide +kernel
theorem dX12_takeSign_1 : decode cX12_takeSign 1 = .ok (.iload_n 1, 1) := by decide +kernel
theorem dX12_takeSign_2 : decode cX12_takeSign 2 = .ok (.invokevirtual 185, 3) := by decide +kernel
theorem dX12_takeSign_5 : decode cX12_takeSign 5 = .ok (.ifCond .eq 16, 3) := by decide +kernel
theorem dX12_takeSign_8 : decode cX12_takeSign 8 = .ok (.aload_n 0, 1) := by decide +kernel
theorem dX12_takeSign_9 : decode cX12_takeSign 9 = .ok (.dup, 1) := by decide +kernel
theorem dX12_takeSign_10 : decode cX12_takeSign 10 = .ok (.getfield 179, 3) := by decide +kernel
theorem dX12_takeSign_13 : decode cX12_takeSign 13 = .ok (.iconst 1, 1) := by decide +kernel
theorem dX12_takeSign_14 : decode cX12_takeSign 14 = .ok (.iadd, 1) := by decide +kernel
theorem dX12_takeSign_15 : decode cX12_takeSign 15 = .ok (.putfield 179, 3) := by decide +kernel
theorem dX12_takeSign_18 : decode cX12_takeSign 18 = .ok (.goto 8, 3) := by decide +kernel
theorem dX12_takeSign_21 : decode cX12_takeSign 21 = .ok (.aload_n 0, 1) := by decide +kernel
theorem dX12_takeSign_22 : decode cX12_takeSign 22 = .ok (.iconst 1, 1) := by decide +kernel
theorem dX12_takeSign_23 : decode cX12_takeSign 23 = .ok (.invokevirtual 188, 3) := by decide +kernel
theorem dX12_takeSign_26 : decode cX12_takeSign 26 = .ok (.return_, 1) := by decide +kernel
theorem dX12_hasSign_0 : decode cX12_hasSign 0 = .ok (.aload_n 0, 1) := by decide +kernel
theorem dX12_hasSign_1 : decode cX12_hasSign 1 = .ok (.iload_n 1, 1) := by decide +kernel
theorem dX12_hasSign_2 : decode cX12_hasSign 2 = .ok (.invokevirtual 185, 3) := by decide +kernel
theorem dX12_hasSign_5 : decode cX12_hasSign 5 = .ok (.istore_n 2, 1) := by decide +kernel
theorem dX12_hasSign_6 : decode cX12_hasSign 6 = .ok (.aload_n 0, 1) := by decide +kernel
theorem dX12_hasSign_7 : decode cX12_hasSign 7 = .ok (.dup, 1) := by decide +kernel
theorem dX12_hasSign_8 : decode cX12_hasSign 8 = .ok (.getfield 179, 3) := by decide +kernel
theorem dX12_hasSign_11 : decode cX12_hasSign 11 = .ok (.iload_n 2, 1) := by decide +kernel
theorem dX12_hasSign_12 : decode cX12_hasSign 12 = .ok (.ifCond .eq 7, 3) := by decide +kernel
theorem dX12_hasSign_15 : decode cX12_hasSign 15 = .ok (.iconst 1, 1) := by decide +kernel
theorem dX12_hasSign_16 : decode cX12_hasSign 16 = .ok (.goto 4, 3) := by decide +kernel
theorem dX12_hasSign_19 : decode cX12_hasSign 19 = .ok (.iconst 0, 1) := by decide +kernel
theorem dX12_hasSign_20 : decode cX12_hasSign 20 = .ok (.iadd, 1) := by decide +kernel
theorem dX12_hasSign_21 : decode cX12_hasSign 21 = .ok (.putfield 179, 3) := by decide +kernel
theorem dX12_hasSign_24 : decode cX12_hasSign 24 = .ok (.iload_n 2, 1) := by decide +kernel
theorem dX12_hasSign_25 : decode cX12_hasSign 25 = .ok (.ireturn, 1) := by decide +kernel
theorem dX12_hasWord_0 : decode cX12_hasWord 0 = .ok (.aload_n 0, 1) := by decide +kernel
theorem dX12_hasWord_1 : decode cX12_hasWord 1 = .ok (.iload_n 1, 1) := by decide +kernel
theorem dX12_hasWord_2 : decode cX12_hasWord 2 = .ok (.invokevirtual 192, 3) := by decide +kernel
theorem dX12_hasWord_5 : decode cX12_hasWord 5 = .ok (.istore_n 2, 1) := by decide +kernel
theorem dX12_hasWord_6 : decode cX12_hasWord 6 = .ok (.aload_n 0, 1) := by decide +kernel
theorem dX12_hasWord_7 : decode cX12_hasWord 7 = .ok (.dup, 1) := by decide +kernel
theorem dX12_hasWord_8 : decode cX12_hasWord 8 = .ok (.getfield 179, 3) := by decide +kernel
theorem dX12_hasWord_11 : decode cX12_hasWord 11 = .ok (.iload_n 2, 1) := by decide +kernel
theorem dX12_hasWord_12 : decode cX12_hasWord 12 = .ok (.ifCond .eq 7, 3) := by decide +kernel
theorem dX12_hasWord_15 : decode cX12_hasWord 15 = .ok (.iconst 1, 1) := by decide +kernel
theorem dX12_hasWord_16 : decode cX12_hasWord 16 = .ok (.goto 4, 3) := by decide +kernel
theorem dX12_hasWord_19 : decode cX12_hasWord 19 = .ok (.iconst 0, 1) := by decide +kernel
theorem dX12_hasWord_20 : decode cX12_hasWord 20 = .ok (.iadd, 1) := by decide +kernel
theorem dX12_hasWord_21 : decode cX12_hasWord 21 = .ok (.putfield 179, 3) := by decide +kernel
theorem dX12_hasWord_24 : decode cX12_hasWord 24 = .ok (.iload_n 2, 1) := by decide +kernel
theorem dX12_hasWord_25 : decode cX12_hasWord 25 = .ok (.ireturn, 1) := by decide +kernel
theorem dX12_takeWord_0 : decode cX12_takeWord 0 = .ok (.aload_n 0, 1) := by decide +kernel
theorem dX12_takeWord_1 : decode cX12_takeWord 1 = .ok (.iload_n 1, 1) := by decide +kernel
theorem dX12_takeWord_2 : decode cX12_takeWord 2 = .ok (.invokevirtual 195, 3) := by decide +kernel
theorem dX12_takeWord_5 : decode cX12_takeWord 5 = .ok (.ifCond .ne 8, 3) := by decide +kernel
theorem dX12_takeWord_8 : decode cX12_takeWord 8 = .ok (.aload_n 0, 1) := by decide +kernel
theorem dX12_takeWord_9 : decode cX12_takeWord 9 = .ok (.iconst 1, 1) := by decide +kernel
theorem dX12_takeWord_10 : decode cX12_takeWord 10 = .ok (.invokevirtual 188, 3) := by decide +kernel
theorem dX12_takeWord_13 : decode cX12_takeWord 13 = .ok (.return_, 1) := by decide +kernel
theorem dX12_within_0 : decode cX12_within 0 = .ok (.iload_n 0, 1) := by decide +kernel
theorem dX12_within_1 : decode cX12_within 1 = .ok (.iload_n 1, 1) := by decide +kernel
theorem dX12_within_2 : decode cX12_within 2 = .ok (.if_icmp .lt 12, 3) := by decide +kernel
theorem dX12_within_5 : decode cX12_within 5 = .ok (.iload_n 0, 1) := by decide +kernel
theorem dX12_within_6 : decode cX12_within 6 = .ok (.iload_n 2, 1) := by decide +kernel
theorem dX12_within_7 : decode cX12_within 7 = .ok (.if_icmp .gt 7, 3) := by decide +kernel
theorem dX12_within_10 : decode cX12_within 10 = .ok (.iconst 1, 1) := by decide +kernel
theorem dX12_within_11 : decode cX12_within 11 = .ok (.goto 4, 3) := by decide +kernel
theorem dX12_within_14 : decode cX12_within 14 = .ok (.iconst 0, 1) := by decide +kernel
theorem dX12_within_15 : decode cX12_within 15 = .ok (.ireturn, 1) := by decide +kernel
theorem dX12_isName_0 : decode cX12_isName 0 = .ok (.aload_n 0, 1) := by decide +kernel
theorem dX12_isName_1 : decode cX12_isName 1 = .ok (.getfield 182, 3) := by decide +kernel
theorem dX12_isName_4 : decode cX12_isName 4 = .ok (.ifCond .ne 20, 3) := by decide +kernel
theorem dX12_isName_7 : decode cX12_isName 7 = .ok (.aload_n 0, 1) := by decide +kernel
theorem dX12_isName_8 : decode cX12_isName 8 = .ok (.getfield 24, 3) := by decide +kernel
theorem dX12_isName_11 : decode cX12_isName 11 = .ok (.aload_n 0, 1) := by decide +kernel
theorem dX12_isName_12 : decode cX12_isName 12 = .ok (.getfield 179, 3) := by decide +kernel
theorem dX12_isName_15 : decode cX12_isName 15 = .ok (.iaload, 1) := by decide +kernel
theorem dX12_isName_16 : decode cX12_isName 16 = .ok (.iconst 1, 1) := by decide +kernel
theorem dX12_isName_17 : decode cX12_isName 17 = .ok (.if_icmp .ne 7, 3) := by decide +kernel
theorem dX12_isName_20 : decode cX12_isName 20 = .ok (.iconst 1, 1) := by decide +kernel
theorem dX12_isName_21 : decode cX12_isName 21 = .ok (.goto 4, 3) := by decide +kernel
theorem dX12_isName_24 : decode cX12_isName 24 = .ok (.iconst 0, 1) := by decide +kernel
theorem dX12_isName_25 : decode cX12_isName 25 = .ok (.istore_n 1, 1) := by decide +kernel
theorem dX12_isName_26 : decode cX12_isName 26 = .ok (.iconst 0, 1) := by decide +kernel
theorem dX12_isName_27 : decode cX12_isName 27 = .ok (.istore_n 2, 1) := by decide +kernel
theorem dX12_isName_28 : decode cX12_isName 28 = .ok (.iload_n 2, 1) := by decide +kernel
theorem dX12_isName_29 : decode cX12_isName 29 = .ok (.bipush 8, 2) := by decide +kernel
theorem dX12_isName_31 : decode cX12_isName 31 = .ok (.if_icmp .ge 38, 3) := by decide +kernel
theorem dX12_isName_34 : decode cX12_isName 34 = .ok (.iload_n 1, 1) := by decide +kernel
theorem dX12_isName_35 : decode cX12_isName 35 = .ok (.ifCond .eq 26, 3) := by decide +kernel
theorem dX12_isName_38 : decode cX12_isName 38 = .ok (.aload_n 0, 1) := by decide +kernel
theorem dX12_isName_39 : decode cX12_isName 39 = .ok (.getfield 30, 3) := by decide +kernel
theorem dX12_isName_42 : decode cX12_isName 42 = .ok (.aload_n 0, 1) := by decide +kernel
theorem dX12_isName_43 : decode cX12_isName 43 = .ok (.getfield 179, 3) := by decide +kernel
theorem dX12_isName_46 : decode cX12_isName 46 = .ok (.laload, 1) := by decide +kernel
theorem dX12_isName_47 : decode cX12_isName 47 = .ok (.aload_n 0, 1) := by decide +kernel
theorem dX12_isName_48 : decode cX12_isName 48 = .ok (.getfield 50, 3) := by decide +kernel
theorem dX12_isName_51 : decode cX12_isName 51 = .ok (.iload_n 2, 1) := by decide +kernel
theorem dX12_isName_52 : decode cX12_isName 52 = .ok (.laload, 1) := by decide +kernel
theorem dX12_isName_53 : decode cX12_isName 53 = .ok (.lcmp, 1) := by decide +kernel
theorem dX12_isName_54 : decode cX12_isName 54 = .ok (.ifCond .eq 7, 3) := by decide +kernel
theorem dX12_isName_57 : decode cX12_isName 57 = .ok (.iconst 1, 1) := by decide +kernel
theorem dX12_isName_58 : decode cX12_isName 58 = .ok (.goto 4, 3) := by decide +kernel
theorem dX12_isName_61 : decode cX12_isName 61 = .ok (.iconst 0, 1) := by decide +kernel
theorem dX12_isName_62 : decode cX12_isName 62 = .ok (.istore_n 1, 1) := by decide +kernel
theorem dX12_isName_63 : decode cX12_isName 63 = .ok (.iinc 2 1, 3) := by decide +kernel
theorem dX12_isName_66 : decode cX12_isName 66 = .ok (.goto (-38), 3) := by decide +kernel
theorem dX12_isName_69 : decode cX12_isName 69 = .ok (.iload_n 1, 1) := by decide +kernel
theorem dX12_isName_70 : decode cX12_isName 70 = .ok (.ireturn, 1) := by decide +kernel
theorem dX12_findTable_0 : decode cX12_findTable 0 = .ok (.iconst (-1), 1) := by decide +kernel
theorem dX12_findTable_1 : decode cX12_findTable 1 = .ok (.istore_n 2, 1) := by decide +kernel
theorem dX12_findTable_2 : decode cX12_findTable 2 = .ok (.iconst 0, 1) := by decide +kernel
theorem dX12_findTable_3 : decode cX12_findTable 3 = .ok (.istore_n 3, 1) := by decide +kernel
theorem dX12_findTable_4 : decode cX12_findTable 4 = .ok (.iload_n 3, 1) := by decide +kernel
theorem dX12_findTable_5 : decode cX12_findTable 5 = .ok (.aload_n 0, 1) := by decide +kernel
theorem dX12_findTable_6 : decode cX12_findTable 6 = .ok (.getfield 53, 3) := by decide +kernel
theorem dX12_findTable_9 : decode cX12_findTable 9 = .ok (.iload_n 1, 1) := by decide +kernel
theorem dX12_findTable_10 : decode cX12_findTable 10 = .ok (.iaload, 1) := by decide +kernel
theorem dX12_findTable_11 : decode cX12_findTable 11 = .ok (.if_icmp .ge 38, 3) := by decide +kernel
theorem dX12_findTable_14 : decode cX12_findTable 14 = .ok (.aload_n 0, 1) := by decide +kernel
theorem dX12_findTable_15 : decode cX12_findTable 15 = .ok (.getfield 56, 3) := by decide +kernel
theorem dX12_findTable_18 : decode cX12_findTable 18 = .ok (.iconst 5, 1) := by decide +kernel
theorem dX12_findTable_19 : decode cX12_findTable 19 = .ok (.iload_n 1, 1) := by decide +kernel
theorem dX12_findTable_20 : decode cX12_findTable 20 = .ok (.imul, 1) := by decide +kernel
theorem dX12_findTable_21 : decode cX12_findTable 21 = .ok (.iload_n 3, 1) := by decide +kernel
theorem dX12_findTable_22 : decode cX12_findTable 22 = .ok (.iadd, 1) := by decide +kernel
theorem dX12_findTable_23 : decode cX12_findTable 23 = .ok (.laload, 1) := by decide +kernel
theorem dX12_findTable_24 : decode cX12_findTable 24 = .ok (.aload_n 0, 1) := by decide +kernel
theorem dX12_findTable_25 : decode cX12_findTable 25 = .ok (.getfield 30, 3) := by decide +kernel
theorem dX12_findTable_28 : decode cX12_findTable 28 = .ok (.aload_n 0, 1) := by decide +kernel
theorem dX12_findTable_29 : decode cX12_findTable 29 = .ok (.getfield 179, 3) := by decide +kernel
theorem dX12_findTable_32 : decode cX12_findTable 32 = .ok (.laload, 1) := by decide +kernel
theorem dX12_findTable_33 : decode cX12_findTable 33 = .ok (.lcmp, 1) := by decide +kernel
theorem dX12_findTable_34 : decode cX12_findTable 34 = .ok (.ifCond .ne 7, 3) := by decide +kernel
theorem dX12_findTable_37 : decode cX12_findTable 37 = .ok (.iload_n 3, 1) := by decide +kernel
theorem dX12_findTable_38 : decode cX12_findTable 38 = .ok (.goto 4, 3) := by decide +kernel
theorem dX12_findTable_41 : decode cX12_findTable 41 = .ok (.iload_n 2, 1) := by decide +kernel
theorem dX12_findTable_42 : decode cX12_findTable 42 = .ok (.istore_n 2, 1) := by decide +kernel
theorem dX12_findTable_43 : decode cX12_findTable 43 = .ok (.iinc 3 1, 3) := by decide +kernel
theorem dX12_findTable_46 : decode cX12_findTable 46 = .ok (.goto (-42), 3) := by decide +kernel
theorem dX12_findTable_49 : decode cX12_findTable 49 = .ok (.iload_n 2, 1) := by decide +kernel
theorem dX12_findTable_50 : decode cX12_findTable 50 = .ok (.ireturn, 1) := by decide +kernel
theorem dX12_tables_0 : decode cX12_tables 0 = .ok (.aload_n 0, 1) := by decide +kernel
theorem dX12_tables_1 : decode cX12_tables 1 = .ok (.iconst 0, 1) := by decide +kernel
theorem dX12_tables_2 : decode cX12_tables 2 = .ok (.putfield 1, 3) := by decide +kernel
theorem dX12_tables_5 : decode cX12_tables 5 = .ok (.aload_n 0, 1) := by decide +kernel
theorem dX12_tables_6 : decode cX12_tables 6 = .ok (.invokevirtual 198, 3) := by decide +kernel
theorem dX12_tables_9 : decode cX12_tables 9 = .ok (.aload_n 0, 1) := by decide +kernel
theorem dX12_tables_10 : decode cX12_tables 10 = .ok (.getfield 53, 3) := by decide +kernel
theorem dX12_tables_13 : decode cX12_tables 13 = .ok (.iconst 1, 1) := by decide +kernel
theorem dX12_tables_14 : decode cX12_tables 14 = .ok (.iconst 0, 1) := by decide +kernel
theorem dX12_tables_15 : decode cX12_tables 15 = .ok (.iastore, 1) := by decide +kernel
theorem dX12_tables_16 : decode cX12_tables 16 = .ok (.aload_n 0, 1) := by decide +kernel
theorem dX12_tables_17 : decode cX12_tables 17 = .ok (.getfield 182, 3) := by decide +kernel
theorem dX12_tables_20 : decode cX12_tables 20 = .ok (.ifCond .ne 22, 3) := by decide +kernel
theorem dX12_tables_23 : decode cX12_tables 23 = .ok (.aload_n 0, 1) := by decide +kernel
theorem dX12_tables_24 : decode cX12_tables 24 = .ok (.getfield 24, 3) := by decide +kernel
theorem dX12_tables_27 : decode cX12_tables 27 = .ok (.aload_n 0, 1) := by decide +kernel
theorem dX12_tables_28 : decode cX12_tables 28 = .ok (.getfield 179, 3) := by decide +kernel
theorem dX12_tables_31 : decode cX12_tables 31 = .ok (.iaload, 1) := by decide +kernel
theorem dX12_tables_32 : decode cX12_tables 32 = .ok (.ifCond .eq 10, 3) := by decide +kernel
theorem dX12_tables_35 : decode cX12_tables 35 = .ok (.aload_n 0, 1) := by decide +kernel
theorem dX12_tables_36 : decode cX12_tables 36 = .ok (.invokevirtual 201, 3) := by decide +kernel
theorem dX12_tables_39 : decode cX12_tables 39 = .ok (.goto (-23), 3) := by decide +kernel
theorem dX12_tables_42 : decode cX12_tables 42 = .ok (.aload_n 0, 1) := by decide +kernel
theorem dX12_tables_43 : decode cX12_tables 43 = .ok (.getfield 182, 3) := by decide +kernel
theorem dX12_tables_46 : decode cX12_tables 46 = .ok (.ifCond .ne 7, 3) := by decide +kernel
theorem dX12_tables_49 : decode cX12_tables 49 = .ok (.aload_n 0, 1) := by decide +kernel
theorem dX12_tables_50 : decode cX12_tables 50 = .ok (.invokevirtual 204, 3) := by decide +kernel
theorem dX12_tables_53 : decode cX12_tables 53 = .ok (.aload_n 0, 1) := by decide +kernel
theorem dX12_tables_54 : decode cX12_tables 54 = .ok (.getfield 182, 3) := by decide +kernel
theorem dX12_tables_57 : decode cX12_tables 57 = .ok (.ireturn, 1) := by decide +kernel
theorem dX12_readTable_0 : decode cX12_readTable 0 = .ok (.aload_n 0, 1) := by decide +kernel
theorem dX12_readTable_1 : decode cX12_readTable 1 = .ok (.iconst 0, 1) := by decide +kernel
theorem dX12_readTable_2 : decode cX12_readTable 2 = .ok (.invokevirtual 192, 3) := by decide +kernel
theorem dX12_readTable_5 : decode cX12_readTable 5 = .ok (.ifCond .ne 11, 3) := by decide +kernel
theorem dX12_readTable_8 : decode cX12_readTable 8 = .ok (.aload_n 0, 1) := by decide +kernel
theorem dX12_readTable_9 : decode cX12_readTable 9 = .ok (.iconst 1, 1) := by decide +kernel
theorem dX12_readTable_10 : decode cX12_readTable 10 = .ok (.invokevirtual 188, 3) := by decide +kernel
theorem dX12_readTable_13 : decode cX12_readTable 13 = .ok (.goto 18, 3) := by decide +kernel
theorem dX12_readTable_16 : decode cX12_readTable 16 = .ok (.aload_n 0, 1) := by decide +kernel
theorem dX12_readTable_17 : decode cX12_readTable 17 = .ok (.getfield 53, 3) := by decide +kernel
theorem dX12_readTable_20 : decode cX12_readTable 20 = .ok (.iconst 1, 1) := by decide +kernel
theorem dX12_readTable_21 : decode cX12_readTable 21 = .ok (.iaload, 1) := by decide +kernel
theorem dX12_readTable_22 : decode cX12_readTable 22 = .ok (.iconst 5, 1) := by decide +kernel
theorem dX12_readTable_23 : decode cX12_readTable 23 = .ok (.if_icmp .ne 8, 3) := by decide +kernel
theorem dX12_readTable_26 : decode cX12_readTable 26 = .ok (.aload_n 0, 1) := by decide +kernel
theorem dX12_readTable_27 : decode cX12_readTable 27 = .ok (.iconst 5, 1) := by decide +kernel
theorem dX12_readTable_28 : decode cX12_readTable 28 = .ok (.invokevirtual 188, 3) := by decide +kernel
theorem dX12_readTable_31 : decode cX12_readTable 31 = .ok (.aload_n 0, 1) := by decide +kernel
theorem dX12_readTable_32 : decode cX12_readTable 32 = .ok (.getfield 182, 3) := by decide +kernel
theorem dX12_readTable_35 : decode cX12_readTable 35 = .ok (.ifCond .le 4, 3) := by decide +kernel
theorem dX12_readTable_38 : decode cX12_readTable 38 = .ok (.return_, 1) := by decide +kernel
theorem dX12_readTable_39 : decode cX12_readTable 39 = .ok (.aload_n 0, 1) := by decide +kernel
theorem dX12_readTable_40 : decode cX12_readTable 40 = .ok (.dup, 1) := by decide +kernel
theorem dX12_readTable_41 : decode cX12_readTable 41 = .ok (.getfield 179, 3) := by decide +kernel
theorem dX12_readTable_44 : decode cX12_readTable 44 = .ok (.iconst 1, 1) := by decide +kernel
theorem dX12_readTable_45 : decode cX12_readTable 45 = .ok (.iadd, 1) := by decide +kernel
theorem dX12_readTable_46 : decode cX12_readTable 46 = .ok (.putfield 179, 3) := by decide +kernel
theorem dX12_readTable_49 : decode cX12_readTable 49 = .ok (.aload_n 0, 1) := by decide +kernel
theorem dX12_readTable_50 : decode cX12_readTable 50 = .ok (.invokevirtual 207, 3) := by decide +kernel
theorem dX12_readTable_53 : decode cX12_readTable 53 = .ok (.ifCond .ne 11, 3) := by decide +kernel
theorem dX12_readTable_56 : decode cX12_readTable 56 = .ok (.aload_n 0, 1) := by decide +kernel
theorem dX12_readTable_57 : decode cX12_readTable 57 = .ok (.iconst 1, 1) := by decide +kernel
theorem dX12_readTable_58 : decode cX12_readTable 58 = .ok (.invokevirtual 188, 3) := by decide +kernel
theorem dX12_readTable_61 : decode cX12_readTable 61 = .ok (.goto 16, 3) := by decide +kernel
theorem dX12_readTable_64 : decode cX12_readTable 64 = .ok (.aload_n 0, 1) := by decide +kernel
theorem dX12_readTable_65 : decode cX12_readTable 65 = .ok (.iconst 1, 1) := by decide +kernel
theorem dX12_readTable_66 : decode cX12_readTable 66 = .ok (.invokevirtual 211, 3) := by decide +kernel
theorem dX12_readTable_69 : decode cX12_readTable 69 = .ok (.ifCond .lt 8, 3) := by decide +kernel
theorem dX12_readTable_72 : decode cX12_readTable 72 = .ok (.aload_n 0, 1) := by decide +kernel
theorem dX12_readTable_73 : decode cX12_readTable 73 = .ok (.iconst 3, 1) := by decide +kernel
theorem dX12_readTable_74 : decode cX12_readTable 74 = .ok (.invokevirtual 188, 3) := by decide +kernel
theorem dX12_readTable_77 : decode cX12_readTable 77 = .ok (.aload_n 0, 1) := by decide +kernel
theorem dX12_readTable_78 : decode cX12_readTable 78 = .ok (.getfield 182, 3) := by decide +kernel
theorem dX12_readTable_81 : decode cX12_readTable 81 = .ok (.ifCond .le 4, 3) := by decide +kernel
theorem dX12_readTable_84 : decode cX12_readTable 84 = .ok (.return_, 1) := by decide +kernel
theorem dX12_readTable_85 : decode cX12_readTable 85 = .ok (.iconst 5, 1) := by decide +kernel
theorem dX12_readTable_86 : decode cX12_readTable 86 = .ok (.aload_n 0, 1) := by decide +kernel
theorem dX12_readTable_87 : decode cX12_readTable 87 = .ok (.getfield 53, 3) := by decide +kernel
theorem dX12_readTable_90 : decode cX12_readTable 90 = .ok (.iconst 1, 1) := by decide +kernel
theorem dX12_readTable_91 : decode cX12_readTable 91 = .ok (.iaload, 1) := by decide +kernel
theorem dX12_readTable_92 : decode cX12_readTable 92 = .ok (.iadd, 1) := by decide +kernel
theorem dX12_readTable_93 : decode cX12_readTable 93 = .ok (.istore_n 1, 1) := by decide +kernel
theorem dX12_readTable_94 : decode cX12_readTable 94 = .ok (.aload_n 0, 1) := by decide +kernel
theorem dX12_readTable_95 : decode cX12_readTable 95 = .ok (.getfield 56, 3) := by decide +kernel
theorem dX12_readTable_98 : decode cX12_readTable 98 = .ok (.iload_n 1, 1) := by decide +kernel
theorem dX12_readTable_99 : decode cX12_readTable 99 = .ok (.aload_n 0, 1) := by decide +kernel
theorem dX12_readTable_100 : decode cX12_readTable 100 = .ok (.getfield 30, 3) := by decide +kernel
theorem dX12_readTable_103 : decode cX12_readTable 103 = .ok (.aload_n 0, 1) := by decide +kernel
theorem dX12_readTable_104 : decode cX12_readTable 104 = .ok (.getfield 179, 3) := by decide +kernel
theorem dX12_readTable_107 : decode cX12_readTable 107 = .ok (.laload, 1) := by decide +kernel
theorem dX12_readTable_108 : decode cX12_readTable 108 = .ok (.lastore, 1) := by decide +kernel
theorem dX12_readTable_109 : decode cX12_readTable 109 = .ok (.aload_n 0, 1) := by decide +kernel
theorem dX12_readTable_110 : decode cX12_readTable 110 = .ok (.getfield 59, 3) := by decide +kernel
theorem dX12_readTable_113 : decode cX12_readTable 113 = .ok (.iload_n 1, 1) := by decide +kernel
theorem dX12_readTable_114 : decode cX12_readTable 114 = .ok (.iconst 0, 1) := by decide +kernel
theorem dX12_readTable_115 : decode cX12_readTable 115 = .ok (.iastore, 1) := by decide +kernel
theorem dX12_readTable_116 : decode cX12_readTable 116 = .ok (.aload_n 0, 1) := by decide +kernel
theorem dX12_readTable_117 : decode cX12_readTable 117 = .ok (.getfield 53, 3) := by decide +kernel
theorem dX12_readTable_120 : decode cX12_readTable 120 = .ok (.iconst 1, 1) := by decide +kernel
theorem dX12_readTable_121 : decode cX12_readTable 121 = .ok (.dup2, 1) := by decide +kernel
theorem dX12_readTable_122 : decode cX12_readTable 122 = .ok (.iaload, 1) := by decide +kernel
theorem dX12_readTable_123 : decode cX12_readTable 123 = .ok (.iconst 1, 1) := by decide +kernel
theorem dX12_readTable_124 : decode cX12_readTable 124 = .ok (.iadd, 1) := by decide +kernel
theorem dX12_readTable_125 : decode cX12_readTable 125 = .ok (.iastore, 1) := by decide +kernel
theorem dX12_readTable_126 : decode cX12_readTable 126 = .ok (.aload_n 0, 1) := by decide +kernel
theorem dX12_readTable_127 : decode cX12_readTable 127 = .ok (.dup, 1) := by decide +kernel
theorem dX12_readTable_128 : decode cX12_readTable 128 = .ok (.getfield 179, 3) := by decide +kernel
theorem dX12_readTable_131 : decode cX12_readTable 131 = .ok (.iconst 1, 1) := by decide +kernel
theorem dX12_readTable_132 : decode cX12_readTable 132 = .ok (.iadd, 1) := by decide +kernel
theorem dX12_readTable_133 : decode cX12_readTable 133 = .ok (.putfield 179, 3) := by decide +kernel
theorem dX12_readTable_136 : decode cX12_readTable 136 = .ok (.aload_n 0, 1) := by decide +kernel
theorem dX12_readTable_137 : decode cX12_readTable 137 = .ok (.iload_n 1, 1) := by decide +kernel
theorem dX12_readTable_138 : decode cX12_readTable 138 = .ok (.invokevirtual 214, 3) := by decide +kernel
theorem dX12_readTable_141 : decode cX12_readTable 141 = .ok (.aload_n 0, 1) := by decide +kernel
theorem dX12_readTable_142 : decode cX12_readTable 142 = .ok (.bipush 44, 2) := by decide +kernel
theorem dX12_readTable_144 : decode cX12_readTable 144 = .ok (.invokevirtual 217, 3) := by decide +kernel
theorem dX12_readTable_147 : decode cX12_readTable 147 = .ok (.ifCond .eq 11, 3) := by decide +kernel
theorem dX12_readTable_150 : decode cX12_readTable 150 = .ok (.aload_n 0, 1) := by decide +kernel
theorem dX12_readTable_151 : decode cX12_readTable 151 = .ok (.iload_n 1, 1) := by decide +kernel
theorem dX12_readTable_152 : decode cX12_readTable 152 = .ok (.invokevirtual 214, 3) := by decide +kernel
theorem dX12_readTable_155 : decode cX12_readTable 155 = .ok (.goto (-14), 3) := by decide +kernel
theorem dX12_readTable_158 : decode cX12_readTable 158 = .ok (.aload_n 0, 1) := by decide +kernel
theorem dX12_readTable_159 : decode cX12_readTable 159 = .ok (.bipush 59, 2) := by decide +kernel
theorem dX12_readTable_161 : decode cX12_readTable 161 = .ok (.invokevirtual 220, 3) := by decide +kernel
theorem dX12_readTable_164 : decode cX12_readTable 164 = .ok (.return_, 1) := by decide +kernel
theorem dX12_readColumn_0 : decode cX12_readColumn 0 = .ok (.iconst 0, 1) := by decide +kernel
theorem dX12_readColumn_1 : decode cX12_readColumn 1 = .ok (.istore_n 2, 1) := by decide +kernel
theorem dX12_readColumn_2 : decode cX12_readColumn 2 = .ok (.iconst 0, 1) := by decide +kernel
theorem dX12_readColumn_3 : decode cX12_readColumn 3 = .ok (.istore_n 3, 1) := by decide +kernel
theorem dX12_readColumn_4 : decode cX12_readColumn 4 = .ok (.iload_n 3, 1) := by decide +kernel
theorem dX12_readColumn_5 : decode cX12_readColumn 5 = .ok (.aload_n 0, 1) := by decide +kernel
theorem dX12_readColumn_6 : decode cX12_readColumn 6 = .ok (.getfield 59, 3) := by decide +kernel
theorem dX12_readColumn_9 : decode cX12_readColumn 9 = .ok (.iload_n 1, 1) := by decide +kernel
theorem dX12_readColumn_10 : decode cX12_readColumn 10 = .ok (.iaload, 1) := by decide +kernel
theorem dX12_readColumn_11 : decode cX12_readColumn 11 = .ok (.if_icmp .ge 49, 3) := by decide +kernel
theorem dX12_readColumn_14 : decode cX12_readColumn 14 = .ok (.aload_n 0, 1) := by decide +kernel
theorem dX12_readColumn_15 : decode cX12_readColumn 15 = .ok (.getfield 182, 3) := by decide +kernel
theorem dX12_readColumn_18 : decode cX12_readColumn 18 = .ok (.ifCond .ne 42, 3) := by decide +kernel
theorem dX12_readColumn_21 : decode cX12_readColumn 21 = .ok (.iload_n 2, 1) := by decide +kernel
theorem dX12_readColumn_22 : decode cX12_readColumn 22 = .ok (.ifCond .ne 26, 3) := by decide +kernel
theorem dX12_readColumn_25 : decode cX12_readColumn 25 = .ok (.aload_n 0, 1) := by decide +kernel
theorem dX12_readColumn_26 : decode cX12_readColumn 26 = .ok (.getfield 62, 3) := by decide +kernel
theorem dX12_readColumn_29 : decode cX12_readColumn 29 = .ok (.iconst 4, 1) := by decide +kernel
theorem dX12_readColumn_30 : decode cX12_readColumn 30 = .ok (.iload_n 1, 1) := by decide +kernel
theorem dX12_readColumn_31 : decode cX12_readColumn 31 = .ok (.imul, 1) := by decide +kernel
theorem dX12_readColumn_32 : decode cX12_readColumn 32 = .ok (.iload_n 3, 1) := by decide +kernel
theorem dX12_readColumn_33 : decode cX12_readColumn 33 = .ok (.iadd, 1) := by decide +kernel
theorem dX12_readColumn_34 : decode cX12_readColumn 34 = .ok (.laload, 1) := by decide +kernel
theorem dX12_readColumn_35 : decode cX12_readColumn 35 = .ok (.aload_n 0, 1) := by decide +kernel
theorem dX12_readColumn_36 : decode cX12_readColumn 36 = .ok (.getfield 30, 3) := by decide +kernel
theorem dX12_readColumn_39 : decode cX12_readColumn 39 = .ok (.aload_n 0, 1) := by decide +kernel
theorem dX12_readColumn_40 : decode cX12_readColumn 40 = .ok (.getfield 179, 3) := by decide +kernel
theorem dX12_readColumn_43 : decode cX12_readColumn 43 = .ok (.laload, 1) := by decide +kernel
theorem dX12_readColumn_44 : decode cX12_readColumn 44 = .ok (.lcmp, 1) := by decide +kernel
theorem dX12_readColumn_45 : decode cX12_readColumn 45 = .ok (.ifCond .ne 7, 3) := by decide +kernel
theorem dX12_readColumn_48 : decode cX12_readColumn 48 = .ok (.iconst 1, 1) := by decide +kernel
theorem dX12_readColumn_49 : decode cX12_readColumn 49 = .ok (.goto 4, 3) := by decide +kernel
theorem dX12_readColumn_52 : decode cX12_readColumn 52 = .ok (.iconst 0, 1) := by decide +kernel
theorem dX12_readColumn_53 : decode cX12_readColumn 53 = .ok (.istore_n 2, 1) := by decide +kernel
theorem dX12_readColumn_54 : decode cX12_readColumn 54 = .ok (.iinc 3 1, 3) := by decide +kernel
theorem dX12_readColumn_57 : decode cX12_readColumn 57 = .ok (.goto (-53), 3) := by decide +kernel
theorem dX12_readColumn_60 : decode cX12_readColumn 60 = .ok (.aload_n 0, 1) := by decide +kernel
theorem dX12_readColumn_61 : decode cX12_readColumn 61 = .ok (.invokevirtual 207, 3) := by decide +kernel
theorem dX12_readColumn_64 : decode cX12_readColumn 64 = .ok (.ifCond .ne 11, 3) := by decide +kernel
theorem dX12_readColumn_67 : decode cX12_readColumn 67 = .ok (.aload_n 0, 1) := by decide +kernel
theorem dX12_readColumn_68 : decode cX12_readColumn 68 = .ok (.iconst 1, 1) := by decide +kernel
theorem dX12_readColumn_69 : decode cX12_readColumn 69 = .ok (.invokevirtual 188, 3) := by decide +kernel
theorem dX12_readColumn_72 : decode cX12_readColumn 72 = .ok (.goto 30, 3) := by decide +kernel
theorem dX12_readColumn_75 : decode cX12_readColumn 75 = .ok (.iload_n 2, 1) := by decide +kernel
theorem dX12_readColumn_76 : decode cX12_readColumn 76 = .ok (.ifCond .eq 11, 3) := by decide +kernel
theorem dX12_readColumn_79 : decode cX12_readColumn 79 = .ok (.aload_n 0, 1) := by decide +kernel
theorem dX12_readColumn_80 : decode cX12_readColumn 80 = .ok (.iconst 3, 1) := by decide +kernel
theorem dX12_readColumn_81 : decode cX12_readColumn 81 = .ok (.invokevirtual 188, 3) := by decide +kernel
theorem dX12_readColumn_84 : decode cX12_readColumn 84 = .ok (.goto 18, 3) := by decide +kernel
theorem dX12_readColumn_87 : decode cX12_readColumn 87 = .ok (.aload_n 0, 1) := by decide +kernel
theorem dX12_readColumn_88 : decode cX12_readColumn 88 = .ok (.getfield 59, 3) := by decide +kernel
theorem dX12_readColumn_91 : decode cX12_readColumn 91 = .ok (.iload_n 1, 1) := by decide +kernel
theorem dX12_readColumn_92 : decode cX12_readColumn 92 = .ok (.iaload, 1) := by decide +kernel
theorem dX12_readColumn_93 : decode cX12_readColumn 93 = .ok (.iconst 4, 1) := by decide +kernel
theorem dX12_readColumn_94 : decode cX12_readColumn 94 = .ok (.if_icmp .ne 8, 3) := by decide +kernel
theorem dX12_readColumn_97 : decode cX12_readColumn 97 = .ok (.aload_n 0, 1) := by decide +kernel
theorem dX12_readColumn_98 : decode cX12_readColumn 98 = .ok (.iconst 5, 1) := by decide +kernel
theorem dX12_readColumn_99 : decode cX12_readColumn 99 = .ok (.invokevirtual 188, 3) := by decide +kernel
theorem dX12_readColumn_102 : decode cX12_readColumn 102 = .ok (.aload_n 0, 1) := by decide +kernel
theorem dX12_readColumn_103 : decode cX12_readColumn 103 = .ok (.getfield 182, 3) := by decide +kernel
theorem dX12_readColumn_106 : decode cX12_readColumn 106 = .ok (.ifCond .le 4, 3) := by decide +kernel
theorem dX12_readColumn_109 : decode cX12_readColumn 109 = .ok (.return_, 1) := by decide +kernel
theorem dX12_readColumn_110 : decode cX12_readColumn 110 = .ok (.iconst 4, 1) := by decide +kernel
theorem dX12_readColumn_111 : decode cX12_readColumn 111 = .ok (.iload_n 1, 1) := by decide +kernel
theorem dX12_readColumn_112 : decode cX12_readColumn 112 = .ok (.imul, 1) := by decide +kernel
theorem dX12_readColumn_113 : decode cX12_readColumn 113 = .ok (.aload_n 0, 1) := by decide +kernel
theorem dX12_readColumn_114 : decode cX12_readColumn 114 = .ok (.getfield 59, 3) := by decide +kernel
theorem dX12_readColumn_117 : decode cX12_readColumn 117 = .ok (.iload_n 1, 1) := by decide +kernel
theorem dX12_readColumn_118 : decode cX12_readColumn 118 = .ok (.iaload, 1) := by decide +kernel
theorem dX12_readColumn_119 : decode cX12_readColumn 119 = .ok (.iadd, 1) := by decide +kernel
theorem dX12_readColumn_120 : decode cX12_readColumn 120 = .ok (.istore_n 3, 1) := by decide +kernel
theorem dX12_readColumn_121 : decode cX12_readColumn 121 = .ok (.aload_n 0, 1) := by decide +kernel
theorem dX12_readColumn_122 : decode cX12_readColumn 122 = .ok (.getfield 62, 3) := by decide +kernel
theorem dX12_readColumn_125 : decode cX12_readColumn 125 = .ok (.iload_n 3, 1) := by decide +kernel
theorem dX12_readColumn_126 : decode cX12_readColumn 126 = .ok (.aload_n 0, 1) := by decide +kernel
theorem dX12_readColumn_127 : decode cX12_readColumn 127 = .ok (.getfield 30, 3) := by decide +kernel
theorem dX12_readColumn_130 : decode cX12_readColumn 130 = .ok (.aload_n 0, 1) := by decide +kernel
theorem dX12_readColumn_131 : decode cX12_readColumn 131 = .ok (.getfield 179, 3) := by decide +kernel
theorem dX12_readColumn_134 : decode cX12_readColumn 134 = .ok (.laload, 1) := by decide +kernel
theorem dX12_readColumn_135 : decode cX12_readColumn 135 = .ok (.lastore, 1) := by decide +kernel
theorem dX12_readColumn_136 : decode cX12_readColumn 136 = .ok (.aload_n 0, 1) := by decide +kernel
theorem dX12_readColumn_137 : decode cX12_readColumn 137 = .ok (.dup, 1) := by decide +kernel
theorem dX12_readColumn_138 : decode cX12_readColumn 138 = .ok (.getfield 179, 3) := by decide +kernel
theorem dX12_readColumn_141 : decode cX12_readColumn 141 = .ok (.iconst 1, 1) := by decide +kernel
theorem dX12_readColumn_142 : decode cX12_readColumn 142 = .ok (.iadd, 1) := by decide +kernel
theorem dX12_readColumn_143 : decode cX12_readColumn 143 = .ok (.putfield 179, 3) := by decide +kernel
theorem dX12_readColumn_146 : decode cX12_readColumn 146 = .ok (.aload_n 0, 1) := by decide +kernel
theorem dX12_readColumn_147 : decode cX12_readColumn 147 = .ok (.invokevirtual 207, 3) := by decide +kernel
theorem dX12_readColumn_150 : decode cX12_readColumn 150 = .ok (.ifCond .eq 11, 3) := by decide +kernel
theorem dX12_readColumn_153 : decode cX12_readColumn 153 = .ok (.aload_n 0, 1) := by decide +kernel
theorem dX12_readColumn_154 : decode cX12_readColumn 154 = .ok (.iconst 1, 1) := by decide +kernel
theorem dX12_readColumn_155 : decode cX12_readColumn 155 = .ok (.invokevirtual 211, 3) := by decide +kernel
theorem dX12_readColumn_158 : decode cX12_readColumn 158 = .ok (.goto 4, 3) := by decide +kernel
theorem dX12_readColumn_161 : decode cX12_readColumn 161 = .ok (.iconst (-1), 1) := by decide +kernel
theorem dX12_readColumn_162 : decode cX12_readColumn 162 = .ok (.istore 4, 2) := by decide +kernel
theorem dX12_readColumn_164 : decode cX12_readColumn 164 = .ok (.aload_n 0, 1) := by decide +kernel
theorem dX12_readColumn_165 : decode cX12_readColumn 165 = .ok (.iconst 1, 1) := by decide +kernel
theorem dX12_readColumn_166 : decode cX12_readColumn 166 = .ok (.invokevirtual 192, 3) := by decide +kernel
theorem dX12_readColumn_169 : decode cX12_readColumn 169 = .ok (.ifCond .ne 11, 3) := by decide +kernel
theorem dX12_readColumn_172 : decode cX12_readColumn 172 = .ok (.aload_n 0, 1) := by decide +kernel
theorem dX12_readColumn_173 : decode cX12_readColumn 173 = .ok (.iconst 2, 1) := by decide +kernel
theorem dX12_readColumn_174 : decode cX12_readColumn 174 = .ok (.invokevirtual 192, 3) := by decide +kernel
theorem dX12_readColumn_177 : decode cX12_readColumn 177 = .ok (.ifCond .eq 26, 3) := by decide +kernel
theorem dX12_readColumn_180 : decode cX12_readColumn 180 = .ok (.aload_n 0, 1) := by decide +kernel
theorem dX12_readColumn_181 : decode cX12_readColumn 181 = .ok (.getfield 65, 3) := by decide +kernel
theorem dX12_readColumn_184 : decode cX12_readColumn 184 = .ok (.iload_n 3, 1) := by decide +kernel
theorem dX12_readColumn_185 : decode cX12_readColumn 185 = .ok (.aload_n 0, 1) := by decide +kernel
theorem dX12_readColumn_186 : decode cX12_readColumn 186 = .ok (.iconst 1, 1) := by decide +kernel
theorem dX12_readColumn_187 : decode cX12_readColumn 187 = .ok (.invokevirtual 192, 3) := by decide +kernel
theorem dX12_readColumn_190 : decode cX12_readColumn 190 = .ok (.ifCond .eq 7, 3) := by decide +kernel
theorem dX12_readColumn_193 : decode cX12_readColumn 193 = .ok (.iconst 5, 1) := by decide +kernel
theorem dX12_readColumn_194 : decode cX12_readColumn 194 = .ok (.goto 5, 3) := by decide +kernel
theorem dX12_readColumn_197 : decode cX12_readColumn 197 = .ok (.bipush 6, 2) := by decide +kernel
theorem dX12_readColumn_199 : decode cX12_readColumn 199 = .ok (.iastore, 1) := by decide +kernel
theorem dX12_readColumn_200 : decode cX12_readColumn 200 = .ok (.goto 39, 3) := by decide +kernel
theorem dX12_readColumn_203 : decode cX12_readColumn 203 = .ok (.aload_n 0, 1) := by decide +kernel
theorem dX12_readColumn_204 : decode cX12_readColumn 204 = .ok (.invokevirtual 207, 3) := by decide +kernel
theorem dX12_readColumn_207 : decode cX12_readColumn 207 = .ok (.ifCond .ne 11, 3) := by decide +kernel
theorem dX12_readColumn_210 : decode cX12_readColumn 210 = .ok (.aload_n 0, 1) := by decide +kernel
theorem dX12_readColumn_211 : decode cX12_readColumn 211 = .ok (.iconst 1, 1) := by decide +kernel
theorem dX12_readColumn_212 : decode cX12_readColumn 212 = .ok (.invokevirtual 188, 3) := by decide +kernel
theorem dX12_readColumn_215 : decode cX12_readColumn 215 = .ok (.goto 24, 3) := by decide +kernel
theorem dX12_readColumn_218 : decode cX12_readColumn 218 = .ok (.iload 4, 2) := by decide +kernel
theorem dX12_readColumn_220 : decode cX12_readColumn 220 = .ok (.ifCond .ge 11, 3) := by decide +kernel
theorem dX12_readColumn_223 : decode cX12_readColumn 223 = .ok (.aload_n 0, 1) := by decide +kernel
theorem dX12_readColumn_224 : decode cX12_readColumn 224 = .ok (.iconst 2, 1) := by decide +kernel
theorem dX12_readColumn_225 : decode cX12_readColumn 225 = .ok (.invokevirtual 188, 3) := by decide +kernel
theorem dX12_readColumn_228 : decode cX12_readColumn 228 = .ok (.goto 11, 3) := by decide +kernel
theorem dX12_readColumn_231 : decode cX12_readColumn 231 = .ok (.aload_n 0, 1) := by decide +kernel
theorem dX12_readColumn_232 : decode cX12_readColumn 232 = .ok (.getfield 65, 3) := by decide +kernel
theorem dX12_readColumn_235 : decode cX12_readColumn 235 = .ok (.iload_n 3, 1) := by decide +kernel
theorem dX12_readColumn_236 : decode cX12_readColumn 236 = .ok (.iload 4, 2) := by decide +kernel
theorem dX12_readColumn_238 : decode cX12_readColumn 238 = .ok (.iastore, 1) := by decide +kernel
theorem dX12_readColumn_239 : decode cX12_readColumn 239 = .ok (.aload_n 0, 1) := by decide +kernel
theorem dX12_readColumn_240 : decode cX12_readColumn 240 = .ok (.getfield 182, 3) := by decide +kernel
theorem dX12_readColumn_243 : decode cX12_readColumn 243 = .ok (.ifCond .ne 23, 3) := by decide +kernel
theorem dX12_readColumn_246 : decode cX12_readColumn 246 = .ok (.aload_n 0, 1) := by decide +kernel
theorem dX12_readColumn_247 : decode cX12_readColumn 247 = .ok (.dup, 1) := by decide +kernel
theorem dX12_readColumn_248 : decode cX12_readColumn 248 = .ok (.getfield 179, 3) := by decide +kernel
theorem dX12_readColumn_251 : decode cX12_readColumn 251 = .ok (.iconst 1, 1) := by decide +kernel
theorem dX12_readColumn_252 : decode cX12_readColumn 252 = .ok (.iadd, 1) := by decide +kernel
theorem dX12_readColumn_253 : decode cX12_readColumn 253 = .ok (.putfield 179, 3) := by decide +kernel
theorem dX12_readColumn_256 : decode cX12_readColumn 256 = .ok (.aload_n 0, 1) := by decide +kernel
theorem dX12_readColumn_257 : decode cX12_readColumn 257 = .ok (.getfield 59, 3) := by decide +kernel
theorem dX12_readColumn_260 : decode cX12_readColumn 260 = .ok (.iload_n 1, 1) := by decide +kernel
theorem dX12_readColumn_261 : decode cX12_readColumn 261 = .ok (.dup2, 1) := by decide +kernel
theorem dX12_readColumn_262 : decode cX12_readColumn 262 = .ok (.iaload, 1) := by decide +kernel
theorem dX12_readColumn_263 : decode cX12_readColumn 263 = .ok (.iconst 1, 1) := by decide +kernel
theorem dX12_readColumn_264 : decode cX12_readColumn 264 = .ok (.iadd, 1) := by decide +kernel
theorem dX12_readColumn_265 : decode cX12_readColumn 265 = .ok (.iastore, 1) := by decide +kernel
theorem dX12_readColumn_266 : decode cX12_readColumn 266 = .ok (.return_, 1) := by decide +kernel
theorem dX12_takesTables_0 : decode cX12_takesTables 0 = .ok (.aload_n 0, 1) := by decide +kernel
theorem dX12_takesTables_1 : decode cX12_takesTables 1 = .ok (.getfield 53, 3) := by decide +kernel
theorem dX12_takesTables_4 : decode cX12_takesTables 4 = .ok (.iconst 0, 1) := by decide +kernel
theorem dX12_takesTables_5 : decode cX12_takesTables 5 = .ok (.aload_n 0, 1) := by decide +kernel
theorem dX12_takesTables_6 : decode cX12_takesTables 6 = .ok (.getfield 53, 3) := by decide +kernel
theorem dX12_takesTables_9 : decode cX12_takesTables 9 = .ok (.iconst 1, 1) := by decide +kernel
theorem dX12_takesTables_10 : decode cX12_takesTables 10 = .ok (.iaload, 1) := by decide +kernel
theorem dX12_takesTables_11 : decode cX12_takesTables 11 = .ok (.iastore, 1) := by decide +kernel
theorem dX12_takesTables_12 : decode cX12_takesTables 12 = .ok (.iconst 0, 1) := by decide +kernel
theorem dX12_takesTables_13 : decode cX12_takesTables 13 = .ok (.istore_n 1, 1) := by decide +kernel
theorem dX12_takesTables_14 : decode cX12_takesTables 14 = .ok (.iload_n 1, 1) := by decide +kernel
theorem dX12_takesTables_15 : decode cX12_takesTables 15 = .ok (.iconst 5, 1) := by decide +kernel
theorem dX12_takesTables_16 : decode cX12_takesTables 16 = .ok (.if_icmp .ge 37, 3) := by decide +kernel
theorem dX12_takesTables_19 : decode cX12_takesTables 19 = .ok (.aload_n 0, 1) := by decide +kernel
theorem dX12_takesTables_20 : decode cX12_takesTables 20 = .ok (.getfield 56, 3) := by decide +kernel
theorem dX12_takesTables_23 : decode cX12_takesTables 23 = .ok (.iload_n 1, 1) := by decide +kernel
theorem dX12_takesTables_24 : decode cX12_takesTables 24 = .ok (.aload_n 0, 1) := by decide +kernel
theorem dX12_takesTables_25 : decode cX12_takesTables 25 = .ok (.getfield 56, 3) := by decide +kernel
theorem dX12_takesTables_28 : decode cX12_takesTables 28 = .ok (.iconst 5, 1) := by decide +kernel
theorem dX12_takesTables_29 : decode cX12_takesTables 29 = .ok (.iload_n 1, 1) := by decide +kernel
theorem dX12_takesTables_30 : decode cX12_takesTables 30 = .ok (.iadd, 1) := by decide +kernel
theorem dX12_takesTables_31 : decode cX12_takesTables 31 = .ok (.laload, 1) := by decide +kernel
theorem dX12_takesTables_32 : decode cX12_takesTables 32 = .ok (.lastore, 1) := by decide +kernel
theorem dX12_takesTables_33 : decode cX12_takesTables 33 = .ok (.aload_n 0, 1) := by decide +kernel
theorem dX12_takesTables_34 : decode cX12_takesTables 34 = .ok (.getfield 59, 3) := by decide +kernel
theorem dX12_takesTables_37 : decode cX12_takesTables 37 = .ok (.iload_n 1, 1) := by decide +kernel
theorem dX12_takesTables_38 : decode cX12_takesTables 38 = .ok (.aload_n 0, 1) := by decide +kernel
theorem dX12_takesTables_39 : decode cX12_takesTables 39 = .ok (.getfield 59, 3) := by decide +kernel
theorem dX12_takesTables_42 : decode cX12_takesTables 42 = .ok (.iconst 5, 1) := by decide +kernel
theorem dX12_takesTables_43 : decode cX12_takesTables 43 = .ok (.iload_n 1, 1) := by decide +kernel
theorem dX12_takesTables_44 : decode cX12_takesTables 44 = .ok (.iadd, 1) := by decide +kernel
theorem dX12_takesTables_45 : decode cX12_takesTables 45 = .ok (.iaload, 1) := by decide +kernel
theorem dX12_takesTables_46 : decode cX12_takesTables 46 = .ok (.iastore, 1) := by decide +kernel
theorem dX12_takesTables_47 : decode cX12_takesTables 47 = .ok (.iinc 1 1, 3) := by decide +kernel
theorem dX12_takesTables_50 : decode cX12_takesTables 50 = .ok (.goto (-36), 3) := by decide +kernel
theorem dX12_takesTables_53 : decode cX12_takesTables 53 = .ok (.iconst 0, 1) := by decide +kernel
theorem dX12_takesTables_54 : decode cX12_takesTables 54 = .ok (.istore_n 1, 1) := by decide +kernel
theorem dX12_takesTables_55 : decode cX12_takesTables 55 = .ok (.iload_n 1, 1) := by decide +kernel
theorem dX12_takesTables_56 : decode cX12_takesTables 56 = .ok (.bipush 20, 2) := by decide +kernel
theorem dX12_takesTables_58 : decode cX12_takesTables 58 = .ok (.if_icmp .ge 39, 3) := by decide +kernel
theorem dX12_takesTables_61 : decode cX12_takesTables 61 = .ok (.aload_n 0, 1) := by decide +kernel
theorem dX12_takesTables_62 : decode cX12_takesTables 62 = .ok (.getfield 62, 3) := by decide +kernel
theorem dX12_takesTables_65 : decode cX12_takesTables 65 = .ok (.iload_n 1, 1) := by decide +kernel
theorem dX12_takesTables_66 : decode cX12_takesTables 66 = .ok (.aload_n 0, 1) := by decide +kernel
theorem dX12_takesTables_67 : decode cX12_takesTables 67 = .ok (.getfield 62, 3) := by decide +kernel
theorem dX12_takesTables_70 : decode cX12_takesTables 70 = .ok (.bipush 20, 2) := by decide +kernel
theorem dX12_takesTables_72 : decode cX12_takesTables 72 = .ok (.iload_n 1, 1) := by decide +kernel
theorem dX12_takesTables_73 : decode cX12_takesTables 73 = .ok (.iadd, 1) := by decide +kernel
theorem dX12_takesTables_74 : decode cX12_takesTables 74 = .ok (.laload, 1) := by decide +kernel
theorem dX12_takesTables_75 : decode cX12_takesTables 75 = .ok (.lastore, 1) := by decide +kernel
theorem dX12_takesTables_76 : decode cX12_takesTables 76 = .ok (.aload_n 0, 1) := by decide +kernel
theorem dX12_takesTables_77 : decode cX12_takesTables 77 = .ok (.getfield 65, 3) := by decide +kernel
theorem dX12_takesTables_80 : decode cX12_takesTables 80 = .ok (.iload_n 1, 1) := by decide +kernel
theorem dX12_takesTables_81 : decode cX12_takesTables 81 = .ok (.aload_n 0, 1) := by decide +kernel
theorem dX12_takesTables_82 : decode cX12_takesTables 82 = .ok (.getfield 65, 3) := by decide +kernel
theorem dX12_takesTables_85 : decode cX12_takesTables 85 = .ok (.bipush 20, 2) := by decide +kernel
theorem dX12_takesTables_87 : decode cX12_takesTables 87 = .ok (.iload_n 1, 1) := by decide +kernel
theorem dX12_takesTables_88 : decode cX12_takesTables 88 = .ok (.iadd, 1) := by decide +kernel
theorem dX12_takesTables_89 : decode cX12_takesTables 89 = .ok (.iaload, 1) := by decide +kernel
theorem dX12_takesTables_90 : decode cX12_takesTables 90 = .ok (.iastore, 1) := by decide +kernel
theorem dX12_takesTables_91 : decode cX12_takesTables 91 = .ok (.iinc 1 1, 3) := by decide +kernel
theorem dX12_takesTables_94 : decode cX12_takesTables 94 = .ok (.goto (-39), 3) := by decide +kernel
theorem dX12_takesTables_97 : decode cX12_takesTables 97 = .ok (.aload_n 0, 1) := by decide +kernel
theorem dX12_takesTables_98 : decode cX12_takesTables 98 = .ok (.iconst 0, 1) := by decide +kernel
theorem dX12_takesTables_99 : decode cX12_takesTables 99 = .ok (.putfield 223, 3) := by decide +kernel
theorem dX12_takesTables_102 : decode cX12_takesTables 102 = .ok (.aload_n 0, 1) := by decide +kernel
theorem dX12_takesTables_103 : decode cX12_takesTables 103 = .ok (.iconst 0, 1) := by decide +kernel
theorem dX12_takesTables_104 : decode cX12_takesTables 104 = .ok (.putfield 226, 3) := by decide +kernel
theorem dX12_takesTables_107 : decode cX12_takesTables 107 = .ok (.aload_n 0, 1) := by decide +kernel
theorem dX12_takesTables_108 : decode cX12_takesTables 108 = .ok (.iconst 0, 1) := by decide +kernel
theorem dX12_takesTables_109 : decode cX12_takesTables 109 = .ok (.putfield 229, 3) := by decide +kernel
theorem dX12_takesTables_112 : decode cX12_takesTables 112 = .ok (.aload_n 0, 1) := by decide +kernel
theorem dX12_takesTables_113 : decode cX12_takesTables 113 = .ok (.iconst 0, 1) := by decide +kernel
theorem dX12_takesTables_114 : decode cX12_takesTables 114 = .ok (.putfield 232, 3) := by decide +kernel
theorem dX12_takesTables_117 : decode cX12_takesTables 117 = .ok (.iconst 0, 1) := by decide +kernel
theorem dX12_takesTables_118 : decode cX12_takesTables 118 = .ok (.istore_n 1, 1) := by decide +kernel
theorem dX12_takesTables_119 : decode cX12_takesTables 119 = .ok (.iload_n 1, 1) := by decide +kernel
theorem dX12_takesTables_120 : decode cX12_takesTables 120 = .ok (.bipush 120, 2) := by decide +kernel
theorem dX12_takesTables_122 : decode cX12_takesTables 122 = .ok (.if_icmp .ge 16, 3) := by decide +kernel
theorem dX12_takesTables_125 : decode cX12_takesTables 125 = .ok (.aload_n 0, 1) := by decide +kernel
theorem dX12_takesTables_126 : decode cX12_takesTables 126 = .ok (.getfield 86, 3) := by decide +kernel
theorem dX12_takesTables_129 : decode cX12_takesTables 129 = .ok (.iload_n 1, 1) := by decide +kernel
theorem dX12_takesTables_130 : decode cX12_takesTables 130 = .ok (.iconst 0, 1) := by decide +kernel
theorem dX12_takesTables_131 : decode cX12_takesTables 131 = .ok (.bastore, 1) := by decide +kernel
theorem dX12_takesTables_132 : decode cX12_takesTables 132 = .ok (.iinc 1 1, 3) := by decide +kernel
theorem dX12_takesTables_135 : decode cX12_takesTables 135 = .ok (.goto (-16), 3) := by decide +kernel
theorem dX12_takesTables_138 : decode cX12_takesTables 138 = .ok (.iconst 0, 1) := by decide +kernel
theorem dX12_takesTables_139 : decode cX12_takesTables 139 = .ok (.istore_n 1, 1) := by decide +kernel
theorem dX12_takesTables_140 : decode cX12_takesTables 140 = .ok (.iload_n 1, 1) := by decide +kernel
theorem dX12_takesTables_141 : decode cX12_takesTables 141 = .ok (.sipush 7776, 3) := by decide +kernel
theorem dX12_takesTables_144 : decode cX12_takesTables 144 = .ok (.if_icmp .ge 16, 3) := by decide +kernel
theorem dX12_takesTables_147 : decode cX12_takesTables 147 = .ok (.aload_n 0, 1) := by decide +kernel
theorem dX12_takesTables_148 : decode cX12_takesTables 148 = .ok (.getfield 137, 3) := by decide +kernel
theorem dX12_takesTables_151 : decode cX12_takesTables 151 = .ok (.iload_n 1, 1) := by decide +kernel
theorem dX12_takesTables_152 : decode cX12_takesTables 152 = .ok (.iconst 0, 1) := by decide +kernel
theorem dX12_takesTables_153 : decode cX12_takesTables 153 = .ok (.iastore, 1) := by decide +kernel
theorem dX12_takesTables_154 : decode cX12_takesTables 154 = .ok (.iinc 1 1, 3) := by decide +kernel
theorem dX12_takesTables_157 : decode cX12_takesTables 157 = .ok (.goto (-17), 3) := by decide +kernel
theorem dX12_takesTables_160 : decode cX12_takesTables 160 = .ok (.aload_n 0, 1) := by decide +kernel
theorem dX12_takesTables_161 : decode cX12_takesTables 161 = .ok (.iconst 1, 1) := by decide +kernel
theorem dX12_takesTables_162 : decode cX12_takesTables 162 = .ok (.putfield 152, 3) := by decide +kernel
theorem dX12_takesTables_165 : decode cX12_takesTables 165 = .ok (.return_, 1) := by decide +kernel
theorem dX12_rowsOf_0 : decode cX12_rowsOf 0 = .ok (.iconst 0, 1) := by decide +kernel
theorem dX12_rowsOf_1 : decode cX12_rowsOf 1 = .ok (.istore_n 2, 1) := by decide +kernel
theorem dX12_rowsOf_2 : decode cX12_rowsOf 2 = .ok (.iconst 0, 1) := by decide +kernel
theorem dX12_rowsOf_3 : decode cX12_rowsOf 3 = .ok (.istore_n 3, 1) := by decide +kernel
theorem dX12_rowsOf_4 : decode cX12_rowsOf 4 = .ok (.iload_n 3, 1) := by decide +kernel
theorem dX12_rowsOf_5 : decode cX12_rowsOf 5 = .ok (.aload_n 0, 1) := by decide +kernel
theorem dX12_rowsOf_6 : decode cX12_rowsOf 6 = .ok (.getfield 235, 3) := by decide +kernel
theorem dX12_rowsOf_9 : decode cX12_rowsOf 9 = .ok (.if_icmp .ge 27, 3) := by decide +kernel
theorem dX12_rowsOf_12 : decode cX12_rowsOf 12 = .ok (.iload_n 2, 1) := by decide +kernel
theorem dX12_rowsOf_13 : decode cX12_rowsOf 13 = .ok (.aload_n 0, 1) := by decide +kernel
theorem dX12_rowsOf_14 : decode cX12_rowsOf 14 = .ok (.getfield 68, 3) := by decide +kernel
theorem dX12_rowsOf_17 : decode cX12_rowsOf 17 = .ok (.iload_n 3, 1) := by decide +kernel
theorem dX12_rowsOf_18 : decode cX12_rowsOf 18 = .ok (.iaload, 1) := by decide +kernel
theorem dX12_rowsOf_19 : decode cX12_rowsOf 19 = .ok (.iload_n 1, 1) := by decide +kernel
theorem dX12_rowsOf_20 : decode cX12_rowsOf 20 = .ok (.if_icmp .ne 7, 3) := by decide +kernel
theorem dX12_rowsOf_23 : decode cX12_rowsOf 23 = .ok (.iconst 1, 1) := by decide +kernel
theorem dX12_rowsOf_24 : decode cX12_rowsOf 24 = .ok (.goto 4, 3) := by decide +kernel
theorem dX12_rowsOf_27 : decode cX12_rowsOf 27 = .ok (.iconst 0, 1) := by decide +kernel
theorem dX12_rowsOf_28 : decode cX12_rowsOf 28 = .ok (.iadd, 1) := by decide +kernel
theorem dX12_rowsOf_29 : decode cX12_rowsOf 29 = .ok (.istore_n 2, 1) := by decide +kernel
theorem dX12_rowsOf_30 : decode cX12_rowsOf 30 = .ok (.iinc 3 1, 3) := by decide +kernel
theorem dX12_rowsOf_33 : decode cX12_rowsOf 33 = .ok (.goto (-29), 3) := by decide +kernel
theorem dX12_rowsOf_36 : decode cX12_rowsOf 36 = .ok (.iload_n 2, 1) := by decide +kernel
theorem dX12_rowsOf_37 : decode cX12_rowsOf 37 = .ok (.ireturn, 1) := by decide +kernel
theorem dX12_rowAt_0 : decode cX12_rowAt 0 = .ok (.iload_n 2, 1) := by decide +kernel
theorem dX12_rowAt_1 : decode cX12_rowAt 1 = .ok (.istore_n 3, 1) := by decide +kernel
theorem dX12_rowAt_2 : decode cX12_rowAt 2 = .ok (.iconst 0, 1) := by decide +kernel
theorem dX12_rowAt_3 : decode cX12_rowAt 3 = .ok (.istore 4, 2) := by decide +kernel
theorem dX12_rowAt_5 : decode cX12_rowAt 5 = .ok (.iload 4, 2) := by decide +kernel
theorem dX12_rowAt_7 : decode cX12_rowAt 7 = .ok (.aload_n 0, 1) := by decide +kernel
theorem dX12_rowAt_8 : decode cX12_rowAt 8 = .ok (.getfield 235, 3) := by decide +kernel
theorem dX12_rowAt_11 : decode cX12_rowAt 11 = .ok (.if_icmp .ge 30, 3) := by decide +kernel
theorem dX12_rowAt_14 : decode cX12_rowAt 14 = .ok (.aload_n 0, 1) := by decide +kernel
theorem dX12_rowAt_15 : decode cX12_rowAt 15 = .ok (.getfield 68, 3) := by decide +kernel
theorem dX12_rowAt_18 : decode cX12_rowAt 18 = .ok (.iload 4, 2) := by decide +kernel
theorem dX12_rowAt_20 : decode cX12_rowAt 20 = .ok (.iaload, 1) := by decide +kernel
theorem dX12_rowAt_21 : decode cX12_rowAt 21 = .ok (.iload_n 1, 1) := by decide +kernel
theorem dX12_rowAt_22 : decode cX12_rowAt 22 = .ok (.if_icmp .ne 13, 3) := by decide +kernel
theorem dX12_rowAt_25 : decode cX12_rowAt 25 = .ok (.iload_n 3, 1) := by decide +kernel
theorem dX12_rowAt_26 : decode cX12_rowAt 26 = .ok (.ifCond .ne 6, 3) := by decide +kernel
theorem dX12_rowAt_29 : decode cX12_rowAt 29 = .ok (.iload 4, 2) := by decide +kernel
theorem dX12_rowAt_31 : decode cX12_rowAt 31 = .ok (.ireturn, 1) := by decide +kernel
theorem dX12_rowAt_32 : decode cX12_rowAt 32 = .ok (.iinc 3 (-1), 3) := by decide +kernel
theorem dX12_rowAt_35 : decode cX12_rowAt 35 = .ok (.iinc 4 1, 3) := by decide +kernel
theorem dX12_rowAt_38 : decode cX12_rowAt 38 = .ok (.goto (-33), 3) := by decide +kernel
theorem dX12_rowAt_41 : decode cX12_rowAt 41 = .ok (.iconst (-1), 1) := by decide +kernel
theorem dX12_rowAt_42 : decode cX12_rowAt 42 = .ok (.ireturn, 1) := by decide +kernel
theorem dX12_rows_0 : decode cX12_rows 0 = .ok (.aload_n 0, 1) := by decide +kernel
theorem dX12_rows_1 : decode cX12_rows 1 = .ok (.iconst 0, 1) := by decide +kernel
theorem dX12_rows_2 : decode cX12_rows 2 = .ok (.putfield 1, 3) := by decide +kernel
theorem dX12_rows_5 : decode cX12_rows 5 = .ok (.aload_n 0, 1) := by decide +kernel
theorem dX12_rows_6 : decode cX12_rows 6 = .ok (.invokevirtual 198, 3) := by decide +kernel
theorem dX12_rows_9 : decode cX12_rows 9 = .ok (.aload_n 0, 1) := by decide +kernel
theorem dX12_rows_10 : decode cX12_rows 10 = .ok (.aload_n 0, 1) := by decide +kernel
theorem dX12_rows_11 : decode cX12_rows 11 = .ok (.getfield 223, 3) := by decide +kernel
theorem dX12_rows_14 : decode cX12_rows 14 = .ok (.putfield 235, 3) := by decide +kernel
theorem dX12_rows_17 : decode cX12_rows 17 = .ok (.aload_n 0, 1) := by decide +kernel
theorem dX12_rows_18 : decode cX12_rows 18 = .ok (.getfield 182, 3) := by decide +kernel
theorem dX12_rows_21 : decode cX12_rows 21 = .ok (.ifCond .ne 22, 3) := by decide +kernel
theorem dX12_rows_24 : decode cX12_rows 24 = .ok (.aload_n 0, 1) := by decide +kernel
theorem dX12_rows_25 : decode cX12_rows 25 = .ok (.getfield 24, 3) := by decide +kernel
theorem dX12_rows_28 : decode cX12_rows 28 = .ok (.aload_n 0, 1) := by decide +kernel
theorem dX12_rows_29 : decode cX12_rows 29 = .ok (.getfield 179, 3) := by decide +kernel
theorem dX12_rows_32 : decode cX12_rows 32 = .ok (.iaload, 1) := by decide +kernel
theorem dX12_rows_33 : decode cX12_rows 33 = .ok (.ifCond .eq 10, 3) := by decide +kernel
theorem dX12_rows_36 : decode cX12_rows 36 = .ok (.aload_n 0, 1) := by decide +kernel
theorem dX12_rows_37 : decode cX12_rows 37 = .ok (.invokevirtual 238, 3) := by decide +kernel
theorem dX12_rows_40 : decode cX12_rows 40 = .ok (.goto (-23), 3) := by decide +kernel
theorem dX12_rows_43 : decode cX12_rows 43 = .ok (.aload_n 0, 1) := by decide +kernel
theorem dX12_rows_44 : decode cX12_rows 44 = .ok (.getfield 182, 3) := by decide +kernel
theorem dX12_rows_47 : decode cX12_rows 47 = .ok (.ifCond .ne 16, 3) := by decide +kernel
theorem dX12_rows_50 : decode cX12_rows 50 = .ok (.aload_n 0, 1) := by decide +kernel
theorem dX12_rows_51 : decode cX12_rows 51 = .ok (.aload_n 0, 1) := by decide +kernel
theorem dX12_rows_52 : decode cX12_rows 52 = .ok (.getfield 235, 3) := by decide +kernel
theorem dX12_rows_55 : decode cX12_rows 55 = .ok (.putfield 223, 3) := by decide +kernel
theorem dX12_rows_58 : decode cX12_rows 58 = .ok (.aload_n 0, 1) := by decide +kernel
theorem dX12_rows_59 : decode cX12_rows 59 = .ok (.iconst 1, 1) := by decide +kernel
theorem dX12_rows_60 : decode cX12_rows 60 = .ok (.putfield 152, 3) := by decide +kernel
theorem dX12_rows_63 : decode cX12_rows 63 = .ok (.aload_n 0, 1) := by decide +kernel
theorem dX12_rows_64 : decode cX12_rows 64 = .ok (.getfield 182, 3) := by decide +kernel
theorem dX12_rows_67 : decode cX12_rows 67 = .ok (.ireturn, 1) := by decide +kernel
theorem dX12_readRow_0 : decode cX12_readRow 0 = .ok (.aload_n 0, 1) := by decide +kernel
theorem dX12_readRow_1 : decode cX12_readRow 1 = .ok (.invokevirtual 207, 3) := by decide +kernel
theorem dX12_readRow_4 : decode cX12_readRow 4 = .ok (.ifCond .eq 11, 3) := by decide +kernel
theorem dX12_readRow_7 : decode cX12_readRow 7 = .ok (.aload_n 0, 1) := by decide +kernel
theorem dX12_readRow_8 : decode cX12_readRow 8 = .ok (.iconst 0, 1) := by decide +kernel
theorem dX12_readRow_9 : decode cX12_readRow 9 = .ok (.invokevirtual 211, 3) := by decide +kernel
theorem dX12_readRow_12 : decode cX12_readRow 12 = .ok (.goto 4, 3) := by decide +kernel
theorem dX12_readRow_15 : decode cX12_readRow 15 = .ok (.iconst (-1), 1) := by decide +kernel
theorem dX12_readRow_16 : decode cX12_readRow 16 = .ok (.istore_n 1, 1) := by decide +kernel
theorem dX12_readRow_17 : decode cX12_readRow 17 = .ok (.aload_n 0, 1) := by decide +kernel
theorem dX12_readRow_18 : decode cX12_readRow 18 = .ok (.invokevirtual 207, 3) := by decide +kernel
theorem dX12_readRow_21 : decode cX12_readRow 21 = .ok (.ifCond .ne 11, 3) := by decide +kernel
theorem dX12_readRow_24 : decode cX12_readRow 24 = .ok (.aload_n 0, 1) := by decide +kernel
theorem dX12_readRow_25 : decode cX12_readRow 25 = .ok (.iconst 1, 1) := by decide +kernel
theorem dX12_readRow_26 : decode cX12_readRow 26 = .ok (.invokevirtual 188, 3) := by decide +kernel
theorem dX12_readRow_29 : decode cX12_readRow 29 = .ok (.goto 29, 3) := by decide +kernel
theorem dX12_readRow_32 : decode cX12_readRow 32 = .ok (.iload_n 1, 1) := by decide +kernel
theorem dX12_readRow_33 : decode cX12_readRow 33 = .ok (.ifCond .ge 11, 3) := by decide +kernel
theorem dX12_readRow_36 : decode cX12_readRow 36 = .ok (.aload_n 0, 1) := by decide +kernel
theorem dX12_readRow_37 : decode cX12_readRow 37 = .ok (.iconst 2, 1) := by decide +kernel
theorem dX12_readRow_38 : decode cX12_readRow 38 = .ok (.invokevirtual 188, 3) := by decide +kernel
theorem dX12_readRow_41 : decode cX12_readRow 41 = .ok (.goto 17, 3) := by decide +kernel
theorem dX12_readRow_44 : decode cX12_readRow 44 = .ok (.aload_n 0, 1) := by decide +kernel
theorem dX12_readRow_45 : decode cX12_readRow 45 = .ok (.getfield 235, 3) := by decide +kernel
theorem dX12_readRow_48 : decode cX12_readRow 48 = .ok (.bipush 30, 2) := by decide +kernel
theorem dX12_readRow_50 : decode cX12_readRow 50 = .ok (.if_icmp .ne 8, 3) := by decide +kernel
theorem dX12_readRow_53 : decode cX12_readRow 53 = .ok (.aload_n 0, 1) := by decide +kernel
theorem dX12_readRow_54 : decode cX12_readRow 54 = .ok (.iconst 5, 1) := by decide +kernel
theorem dX12_readRow_55 : decode cX12_readRow 55 = .ok (.invokevirtual 188, 3) := by decide +kernel
theorem dX12_readRow_58 : decode cX12_readRow 58 = .ok (.aload_n 0, 1) := by decide +kernel
theorem dX12_readRow_59 : decode cX12_readRow 59 = .ok (.getfield 182, 3) := by decide +kernel
theorem dX12_readRow_62 : decode cX12_readRow 62 = .ok (.ifCond .le 4, 3) := by decide +kernel
theorem dX12_readRow_65 : decode cX12_readRow 65 = .ok (.return_, 1) := by decide +kernel
theorem dX12_readRow_66 : decode cX12_readRow 66 = .ok (.aload_n 0, 1) := by decide +kernel
theorem dX12_readRow_67 : decode cX12_readRow 67 = .ok (.dup, 1) := by decide +kernel
theorem dX12_readRow_68 : decode cX12_readRow 68 = .ok (.getfield 179, 3) := by decide +kernel
theorem dX12_readRow_71 : decode cX12_readRow 71 = .ok (.iconst 1, 1) := by decide +kernel
theorem dX12_readRow_72 : decode cX12_readRow 72 = .ok (.iadd, 1) := by decide +kernel
theorem dX12_readRow_73 : decode cX12_readRow 73 = .ok (.putfield 179, 3) := by decide +kernel
theorem dX12_readRow_76 : decode cX12_readRow 76 = .ok (.iconst 0, 1) := by decide +kernel
theorem dX12_readRow_77 : decode cX12_readRow 77 = .ok (.istore_n 2, 1) := by decide +kernel
theorem dX12_readRow_78 : decode cX12_readRow 78 = .ok (.iload_n 2, 1) := by decide +kernel
theorem dX12_readRow_79 : decode cX12_readRow 79 = .ok (.aload_n 0, 1) := by decide +kernel
theorem dX12_readRow_80 : decode cX12_readRow 80 = .ok (.getfield 59, 3) := by decide +kernel
theorem dX12_readRow_83 : decode cX12_readRow 83 = .ok (.iload_n 1, 1) := by decide +kernel
theorem dX12_readRow_84 : decode cX12_readRow 84 = .ok (.iaload, 1) := by decide +kernel
theorem dX12_readRow_85 : decode cX12_readRow 85 = .ok (.if_icmp .ge 22, 3) := by decide +kernel
theorem dX12_readRow_88 : decode cX12_readRow 88 = .ok (.aload_n 0, 1) := by decide +kernel
theorem dX12_readRow_89 : decode cX12_readRow 89 = .ok (.getfield 182, 3) := by decide +kernel
theorem dX12_readRow_92 : decode cX12_readRow 92 = .ok (.ifCond .ne 15, 3) := by decide +kernel
theorem dX12_readRow_95 : decode cX12_readRow 95 = .ok (.aload_n 0, 1) := by decide +kernel
theorem dX12_readRow_96 : decode cX12_readRow 96 = .ok (.iload_n 1, 1) := by decide +kernel
theorem dX12_readRow_97 : decode cX12_readRow 97 = .ok (.iload_n 2, 1) := by decide +kernel
theorem dX12_readRow_98 : decode cX12_readRow 98 = .ok (.invokevirtual 241, 3) := by decide +kernel
theorem dX12_readRow_101 : decode cX12_readRow 101 = .ok (.iinc 2 1, 3) := by decide +kernel
theorem dX12_readRow_104 : decode cX12_readRow 104 = .ok (.goto (-26), 3) := by decide +kernel
theorem dX12_readRow_107 : decode cX12_readRow 107 = .ok (.aload_n 0, 1) := by decide +kernel
theorem dX12_readRow_108 : decode cX12_readRow 108 = .ok (.bipush 59, 2) := by decide +kernel
theorem dX12_readRow_110 : decode cX12_readRow 110 = .ok (.invokevirtual 220, 3) := by decide +kernel
theorem dX12_readRow_113 : decode cX12_readRow 113 = .ok (.aload_n 0, 1) := by decide +kernel
theorem dX12_readRow_114 : decode cX12_readRow 114 = .ok (.getfield 68, 3) := by decide +kernel
theorem dX12_readRow_117 : decode cX12_readRow 117 = .ok (.aload_n 0, 1) := by decide +kernel
theorem dX12_readRow_118 : decode cX12_readRow 118 = .ok (.getfield 235, 3) := by decide +kernel
theorem dX12_readRow_121 : decode cX12_readRow 121 = .ok (.iload_n 1, 1) := by decide +kernel
theorem dX12_readRow_122 : decode cX12_readRow 122 = .ok (.iastore, 1) := by decide +kernel
theorem dX12_readRow_123 : decode cX12_readRow 123 = .ok (.aload_n 0, 1) := by decide +kernel
theorem dX12_readRow_124 : decode cX12_readRow 124 = .ok (.dup, 1) := by decide +kernel
theorem dX12_readRow_125 : decode cX12_readRow 125 = .ok (.getfield 235, 3) := by decide +kernel
theorem dX12_readRow_128 : decode cX12_readRow 128 = .ok (.aload_n 0, 1) := by decide +kernel
theorem dX12_readRow_129 : decode cX12_readRow 129 = .ok (.getfield 182, 3) := by decide +kernel
theorem dX12_readRow_132 : decode cX12_readRow 132 = .ok (.ifCond .ne 7, 3) := by decide +kernel
theorem dX12_readRow_135 : decode cX12_readRow 135 = .ok (.iconst 1, 1) := by decide +kernel
theorem dX12_readRow_136 : decode cX12_readRow 136 = .ok (.goto 4, 3) := by decide +kernel
theorem dX12_readRow_139 : decode cX12_readRow 139 = .ok (.iconst 0, 1) := by decide +kernel
theorem dX12_readRow_140 : decode cX12_readRow 140 = .ok (.iadd, 1) := by decide +kernel
theorem dX12_readRow_141 : decode cX12_readRow 141 = .ok (.putfield 235, 3) := by decide +kernel
theorem dX12_readRow_144 : decode cX12_readRow 144 = .ok (.return_, 1) := by decide +kernel
theorem dX12_readCell_0 : decode cX12_readCell 0 = .ok (.aload_n 0, 1) := by decide +kernel
theorem dX12_readCell_1 : decode cX12_readCell 1 = .ok (.getfield 65, 3) := by decide +kernel
theorem dX12_readCell_4 : decode cX12_readCell 4 = .ok (.iconst 4, 1) := by decide +kernel
theorem dX12_readCell_5 : decode cX12_readCell 5 = .ok (.iload_n 1, 1) := by decide +kernel
theorem dX12_readCell_6 : decode cX12_readCell 6 = .ok (.imul, 1) := by decide +kernel
theorem dX12_readCell_7 : decode cX12_readCell 7 = .ok (.iload_n 2, 1) := by decide +kernel
theorem dX12_readCell_8 : decode cX12_readCell 8 = .ok (.iadd, 1) := by decide +kernel
theorem dX12_readCell_9 : decode cX12_readCell 9 = .ok (.iaload, 1) := by decide +kernel
theorem dX12_readCell_10 : decode cX12_readCell 10 = .ok (.istore_n 3, 1) := by decide +kernel
theorem dX12_readCell_11 : decode cX12_readCell 11 = .ok (.iconst 4, 1) := by decide +kernel
theorem dX12_readCell_12 : decode cX12_readCell 12 = .ok (.aload_n 0, 1) := by decide +kernel
theorem dX12_readCell_13 : decode cX12_readCell 13 = .ok (.getfield 235, 3) := by decide +kernel
theorem dX12_readCell_16 : decode cX12_readCell 16 = .ok (.imul, 1) := by decide +kernel
theorem dX12_readCell_17 : decode cX12_readCell 17 = .ok (.iload_n 2, 1) := by decide +kernel
theorem dX12_readCell_18 : decode cX12_readCell 18 = .ok (.iadd, 1) := by decide +kernel
theorem dX12_readCell_19 : decode cX12_readCell 19 = .ok (.istore 4, 2) := by decide +kernel
theorem dX12_readCell_21 : decode cX12_readCell 21 = .ok (.iload_n 3, 1) := by decide +kernel
theorem dX12_readCell_22 : decode cX12_readCell 22 = .ok (.iconst 5, 1) := by decide +kernel
theorem dX12_readCell_23 : decode cX12_readCell 23 = .ok (.if_icmp .ne 34, 3) := by decide +kernel
theorem dX12_readCell_26 : decode cX12_readCell 26 = .ok (.aload_n 0, 1) := by decide +kernel
theorem dX12_readCell_27 : decode cX12_readCell 27 = .ok (.invokevirtual 207, 3) := by decide +kernel
theorem dX12_readCell_30 : decode cX12_readCell 30 = .ok (.ifCond .ne 8, 3) := by decide +kernel
theorem dX12_readCell_33 : decode cX12_readCell 33 = .ok (.aload_n 0, 1) := by decide +kernel
theorem dX12_readCell_34 : decode cX12_readCell 34 = .ok (.iconst 1, 1) := by decide +kernel
theorem dX12_readCell_35 : decode cX12_readCell 35 = .ok (.invokevirtual 188, 3) := by decide +kernel
theorem dX12_readCell_38 : decode cX12_readCell 38 = .ok (.aload_n 0, 1) := by decide +kernel
theorem dX12_readCell_39 : decode cX12_readCell 39 = .ok (.getfield 71, 3) := by decide +kernel
theorem dX12_readCell_42 : decode cX12_readCell 42 = .ok (.iload 4, 2) := by decide +kernel
theorem dX12_readCell_44 : decode cX12_readCell 44 = .ok (.aload_n 0, 1) := by decide +kernel
theorem dX12_readCell_45 : decode cX12_readCell 45 = .ok (.getfield 30, 3) := by decide +kernel
theorem dX12_readCell_48 : decode cX12_readCell 48 = .ok (.aload_n 0, 1) := by decide +kernel
theorem dX12_readCell_49 : decode cX12_readCell 49 = .ok (.getfield 179, 3) := by decide +kernel
theorem dX12_readCell_52 : decode cX12_readCell 52 = .ok (.laload, 1) := by decide +kernel
theorem dX12_readCell_53 : decode cX12_readCell 53 = .ok (.lastore, 1) := by decide +kernel
theorem dX12_readCell_54 : decode cX12_readCell 54 = .ok (.goto 138, 3) := by decide +kernel
theorem dX12_readCell_57 : decode cX12_readCell 57 = .ok (.iload_n 3, 1) := by decide +kernel
theorem dX12_readCell_58 : decode cX12_readCell 58 = .ok (.bipush 6, 2) := by decide +kernel
theorem dX12_readCell_60 : decode cX12_readCell 60 = .ok (.if_icmp .ne 40, 3) := by decide +kernel
theorem dX12_readCell_63 : decode cX12_readCell 63 = .ok (.aload_n 0, 1) := by decide +kernel
theorem dX12_readCell_64 : decode cX12_readCell 64 = .ok (.getfield 24, 3) := by decide +kernel
theorem dX12_readCell_67 : decode cX12_readCell 67 = .ok (.aload_n 0, 1) := by decide +kernel
theorem dX12_readCell_68 : decode cX12_readCell 68 = .ok (.getfield 179, 3) := by decide +kernel
theorem dX12_readCell_71 : decode cX12_readCell 71 = .ok (.iaload, 1) := by decide +kernel
theorem dX12_readCell_72 : decode cX12_readCell 72 = .ok (.iconst 2, 1) := by decide +kernel
theorem dX12_readCell_73 : decode cX12_readCell 73 = .ok (.if_icmp .eq 8, 3) := by decide +kernel
theorem dX12_readCell_76 : decode cX12_readCell 76 = .ok (.aload_n 0, 1) := by decide +kernel
theorem dX12_readCell_77 : decode cX12_readCell 77 = .ok (.iconst 1, 1) := by decide +kernel
theorem dX12_readCell_78 : decode cX12_readCell 78 = .ok (.invokevirtual 188, 3) := by decide +kernel
theorem dX12_readCell_81 : decode cX12_readCell 81 = .ok (.aload_n 0, 1) := by decide +kernel
theorem dX12_readCell_82 : decode cX12_readCell 82 = .ok (.getfield 71, 3) := by decide +kernel
theorem dX12_readCell_85 : decode cX12_readCell 85 = .ok (.iload 4, 2) := by decide +kernel
theorem dX12_readCell_87 : decode cX12_readCell 87 = .ok (.aload_n 0, 1) := by decide +kernel
theorem dX12_readCell_88 : decode cX12_readCell 88 = .ok (.getfield 30, 3) := by decide +kernel
theorem dX12_readCell_91 : decode cX12_readCell 91 = .ok (.aload_n 0, 1) := by decide +kernel
theorem dX12_readCell_92 : decode cX12_readCell 92 = .ok (.getfield 179, 3) := by decide +kernel
theorem dX12_readCell_95 : decode cX12_readCell 95 = .ok (.laload, 1) := by decide +kernel
theorem dX12_readCell_96 : decode cX12_readCell 96 = .ok (.lastore, 1) := by decide +kernel
theorem dX12_readCell_97 : decode cX12_readCell 97 = .ok (.goto 95, 3) := by decide +kernel
theorem dX12_readCell_100 : decode cX12_readCell 100 = .ok (.aload_n 0, 1) := by decide +kernel
theorem dX12_readCell_101 : decode cX12_readCell 101 = .ok (.iconst 3, 1) := by decide +kernel
theorem dX12_readCell_102 : decode cX12_readCell 102 = .ok (.invokevirtual 192, 3) := by decide +kernel
theorem dX12_readCell_105 : decode cX12_readCell 105 = .ok (.ifCond .eq 16, 3) := by decide +kernel
theorem dX12_readCell_108 : decode cX12_readCell 108 = .ok (.aload_n 0, 1) := by decide +kernel
theorem dX12_readCell_109 : decode cX12_readCell 109 = .ok (.getfield 71, 3) := by decide +kernel
theorem dX12_readCell_112 : decode cX12_readCell 112 = .ok (.iload 4, 2) := by decide +kernel
theorem dX12_readCell_114 : decode cX12_readCell 114 = .ok (.ldc2_w 245, 3) := by decide +kernel
theorem dX12_readCell_117 : decode cX12_readCell 117 = .ok (.lastore, 1) := by decide +kernel
theorem dX12_readCell_118 : decode cX12_readCell 118 = .ok (.goto 74, 3) := by decide +kernel
theorem dX12_readCell_121 : decode cX12_readCell 121 = .ok (.aload_n 0, 1) := by decide +kernel
theorem dX12_readCell_122 : decode cX12_readCell 122 = .ok (.getfield 24, 3) := by decide +kernel
theorem dX12_readCell_125 : decode cX12_readCell 125 = .ok (.aload_n 0, 1) := by decide +kernel
theorem dX12_readCell_126 : decode cX12_readCell 126 = .ok (.getfield 179, 3) := by decide +kernel
theorem dX12_readCell_129 : decode cX12_readCell 129 = .ok (.iaload, 1) := by decide +kernel
theorem dX12_readCell_130 : decode cX12_readCell 130 = .ok (.iconst 2, 1) := by decide +kernel
theorem dX12_readCell_131 : decode cX12_readCell 131 = .ok (.if_icmp .eq 11, 3) := by decide +kernel
theorem dX12_readCell_134 : decode cX12_readCell 134 = .ok (.aload_n 0, 1) := by decide +kernel
theorem dX12_readCell_135 : decode cX12_readCell 135 = .ok (.iconst 1, 1) := by decide +kernel
theorem dX12_readCell_136 : decode cX12_readCell 136 = .ok (.invokevirtual 188, 3) := by decide +kernel
theorem dX12_readCell_139 : decode cX12_readCell 139 = .ok (.goto 53, 3) := by decide +kernel
theorem dX12_readCell_142 : decode cX12_readCell 142 = .ok (.aload_n 0, 1) := by decide +kernel
theorem dX12_readCell_143 : decode cX12_readCell 143 = .ok (.getfield 30, 3) := by decide +kernel
theorem dX12_readCell_146 : decode cX12_readCell 146 = .ok (.aload_n 0, 1) := by decide +kernel
theorem dX12_readCell_147 : decode cX12_readCell 147 = .ok (.getfield 179, 3) := by decide +kernel
theorem dX12_readCell_150 : decode cX12_readCell 150 = .ok (.laload, 1) := by decide +kernel
theorem dX12_readCell_151 : decode cX12_readCell 151 = .ok (.aload_n 0, 1) := by decide +kernel
theorem dX12_readCell_152 : decode cX12_readCell 152 = .ok (.iload_n 3, 1) := by decide +kernel
theorem dX12_readCell_153 : decode cX12_readCell 153 = .ok (.invokevirtual 247, 3) := by decide +kernel
theorem dX12_readCell_156 : decode cX12_readCell 156 = .ok (.i2l, 1) := by decide +kernel
theorem dX12_readCell_157 : decode cX12_readCell 157 = .ok (.lcmp, 1) := by decide +kernel
theorem dX12_readCell_158 : decode cX12_readCell 158 = .ok (.ifCond .lt 11, 3) := by decide +kernel
theorem dX12_readCell_161 : decode cX12_readCell 161 = .ok (.aload_n 0, 1) := by decide +kernel
theorem dX12_readCell_162 : decode cX12_readCell 162 = .ok (.iconst 4, 1) := by decide +kernel
theorem dX12_readCell_163 : decode cX12_readCell 163 = .ok (.invokevirtual 188, 3) := by decide +kernel
theorem dX12_readCell_166 : decode cX12_readCell 166 = .ok (.goto 26, 3) := by decide +kernel
theorem dX12_readCell_169 : decode cX12_readCell 169 = .ok (.aload_n 0, 1) := by decide +kernel
theorem dX12_readCell_170 : decode cX12_readCell 170 = .ok (.getfield 71, 3) := by decide +kernel
theorem dX12_readCell_173 : decode cX12_readCell 173 = .ok (.iload 4, 2) := by decide +kernel
theorem dX12_readCell_175 : decode cX12_readCell 175 = .ok (.aload_n 0, 1) := by decide +kernel
theorem dX12_readCell_176 : decode cX12_readCell 176 = .ok (.iload_n 3, 1) := by decide +kernel
theorem dX12_readCell_177 : decode cX12_readCell 177 = .ok (.aload_n 0, 1) := by decide +kernel
theorem dX12_readCell_178 : decode cX12_readCell 178 = .ok (.getfield 30, 3) := by decide +kernel
theorem dX12_readCell_181 : decode cX12_readCell 181 = .ok (.aload_n 0, 1) := by decide +kernel
theorem dX12_readCell_182 : decode cX12_readCell 182 = .ok (.getfield 179, 3) := by decide +kernel
theorem dX12_readCell_185 : decode cX12_readCell 185 = .ok (.laload, 1) := by decide +kernel
theorem dX12_readCell_186 : decode cX12_readCell 186 = .ok (.l2i, 1) := by decide +kernel
theorem dX12_readCell_187 : decode cX12_readCell 187 = .ok (.invokevirtual 250, 3) := by decide +kernel
theorem dX12_readCell_190 : decode cX12_readCell 190 = .ok (.i2l, 1) := by decide +kernel
theorem dX12_readCell_191 : decode cX12_readCell 191 = .ok (.lastore, 1) := by decide +kernel
theorem dX12_readCell_192 : decode cX12_readCell 192 = .ok (.aload_n 0, 1) := by decide +kernel
theorem dX12_readCell_193 : decode cX12_readCell 193 = .ok (.dup, 1) := by decide +kernel
theorem dX12_readCell_194 : decode cX12_readCell 194 = .ok (.getfield 179, 3) := by decide +kernel
theorem dX12_readCell_197 : decode cX12_readCell 197 = .ok (.aload_n 0, 1) := by decide +kernel
theorem dX12_readCell_198 : decode cX12_readCell 198 = .ok (.getfield 182, 3) := by decide +kernel
theorem dX12_readCell_201 : decode cX12_readCell 201 = .ok (.ifCond .ne 7, 3) := by decide +kernel
theorem dX12_readCell_204 : decode cX12_readCell 204 = .ok (.iconst 1, 1) := by decide +kernel
theorem dX12_readCell_205 : decode cX12_readCell 205 = .ok (.goto 4, 3) := by decide +kernel
theorem dX12_readCell_208 : decode cX12_readCell 208 = .ok (.iconst 0, 1) := by decide +kernel
theorem dX12_readCell_209 : decode cX12_readCell 209 = .ok (.iadd, 1) := by decide +kernel
theorem dX12_readCell_210 : decode cX12_readCell 210 = .ok (.putfield 179, 3) := by decide +kernel
theorem dX12_readCell_213 : decode cX12_readCell 213 = .ok (.return_, 1) := by decide +kernel
theorem dX12_readTerm_0 : decode cX12_readTerm 0 = .ok (.aload_n 0, 1) := by decide +kernel
theorem dX12_readTerm_1 : decode cX12_readTerm 1 = .ok (.iconst 5, 1) := by decide +kernel
theorem dX12_readTerm_2 : decode cX12_readTerm 2 = .ok (.invokevirtual 192, 3) := by decide +kernel
theorem dX12_readTerm_5 : decode cX12_readTerm 5 = .ok (.ifCond .ne 12, 3) := by decide +kernel
theorem dX12_readTerm_8 : decode cX12_readTerm 8 = .ok (.aload_n 0, 1) := by decide +kernel
theorem dX12_readTerm_9 : decode cX12_readTerm 9 = .ok (.bipush 6, 2) := by decide +kernel
theorem dX12_readTerm_11 : decode cX12_readTerm 11 = .ok (.invokevirtual 192, 3) := by decide +kernel
theorem dX12_readTerm_14 : decode cX12_readTerm 14 = .ok (.ifCond .eq 7, 3) := by decide +kernel
theorem dX12_readTerm_17 : decode cX12_readTerm 17 = .ok (.iconst 1, 1) := by decide +kernel
theorem dX12_readTerm_18 : decode cX12_readTerm 18 = .ok (.goto 4, 3) := by decide +kernel
theorem dX12_readTerm_21 : decode cX12_readTerm 21 = .ok (.iconst 0, 1) := by decide +kernel
theorem dX12_readTerm_22 : decode cX12_readTerm 22 = .ok (.istore_n 1, 1) := by decide +kernel
theorem dX12_readTerm_23 : decode cX12_readTerm 23 = .ok (.aload_n 0, 1) := by decide +kernel
theorem dX12_readTerm_24 : decode cX12_readTerm 24 = .ok (.invokevirtual 207, 3) := by decide +kernel
theorem dX12_readTerm_27 : decode cX12_readTerm 27 = .ok (.ifCond .ne 23, 3) := by decide +kernel
theorem dX12_readTerm_30 : decode cX12_readTerm 30 = .ok (.iload_n 1, 1) := by decide +kernel
theorem dX12_readTerm_31 : decode cX12_readTerm 31 = .ok (.ifCond .ne 19, 3) := by decide +kernel
theorem dX12_readTerm_34 : decode cX12_readTerm 34 = .ok (.aload_n 0, 1) := by decide +kernel
theorem dX12_readTerm_35 : decode cX12_readTerm 35 = .ok (.iconst 4, 1) := by decide +kernel
theorem dX12_readTerm_36 : decode cX12_readTerm 36 = .ok (.invokevirtual 192, 3) := by decide +kernel
theorem dX12_readTerm_39 : decode cX12_readTerm 39 = .ok (.ifCond .ne 11, 3) := by decide +kernel
theorem dX12_readTerm_42 : decode cX12_readTerm 42 = .ok (.aload_n 0, 1) := by decide +kernel
theorem dX12_readTerm_43 : decode cX12_readTerm 43 = .ok (.iconst 1, 1) := by decide +kernel
theorem dX12_readTerm_44 : decode cX12_readTerm 44 = .ok (.invokevirtual 188, 3) := by decide +kernel
theorem dX12_readTerm_47 : decode cX12_readTerm 47 = .ok (.goto 16, 3) := by decide +kernel
theorem dX12_readTerm_50 : decode cX12_readTerm 50 = .ok (.aload_n 0, 1) := by decide +kernel
theorem dX12_readTerm_51 : decode cX12_readTerm 51 = .ok (.getfield 254, 3) := by decide +kernel
theorem dX12_readTerm_54 : decode cX12_readTerm 54 = .ok (.iconst 4, 1) := by decide +kernel
theorem dX12_readTerm_55 : decode cX12_readTerm 55 = .ok (.if_icmp .ne 8, 3) := by decide +kernel
theorem dX12_readTerm_58 : decode cX12_readTerm 58 = .ok (.aload_n 0, 1) := by decide +kernel
theorem dX12_readTerm_59 : decode cX12_readTerm 59 = .ok (.iconst 5, 1) := by decide +kernel
theorem dX12_readTerm_60 : decode cX12_readTerm 60 = .ok (.invokevirtual 188, 3) := by decide +kernel
theorem dX12_readTerm_63 : decode cX12_readTerm 63 = .ok (.aload_n 0, 1) := by decide +kernel
theorem dX12_readTerm_64 : decode cX12_readTerm 64 = .ok (.getfield 182, 3) := by decide +kernel
theorem dX12_readTerm_67 : decode cX12_readTerm 67 = .ok (.ifCond .le 4, 3) := by decide +kernel
theorem dX12_readTerm_70 : decode cX12_readTerm 70 = .ok (.return_, 1) := by decide +kernel
theorem dX12_readTerm_71 : decode cX12_readTerm 71 = .ok (.iconst 4, 1) := by decide +kernel
theorem dX12_readTerm_72 : decode cX12_readTerm 72 = .ok (.aload_n 0, 1) := by decide +kernel
theorem dX12_readTerm_73 : decode cX12_readTerm 73 = .ok (.getfield 254, 3) := by decide +kernel
theorem dX12_readTerm_76 : decode cX12_readTerm 76 = .ok (.iadd, 1) := by decide +kernel
theorem dX12_readTerm_77 : decode cX12_readTerm 77 = .ok (.istore_n 2, 1) := by decide +kernel
theorem dX12_readTerm_78 : decode cX12_readTerm 78 = .ok (.aload_n 0, 1) := by decide +kernel
theorem dX12_readTerm_79 : decode cX12_readTerm 79 = .ok (.getfield 74, 3) := by decide +kernel
theorem dX12_readTerm_82 : decode cX12_readTerm 82 = .ok (.iload_n 2, 1) := by decide +kernel
theorem dX12_readTerm_83 : decode cX12_readTerm 83 = .ok (.aload_n 0, 1) := by decide +kernel
theorem dX12_readTerm_84 : decode cX12_readTerm 84 = .ok (.iconst 4, 1) := by decide +kernel
theorem dX12_readTerm_85 : decode cX12_readTerm 85 = .ok (.invokevirtual 192, 3) := by decide +kernel
theorem dX12_readTerm_88 : decode cX12_readTerm 88 = .ok (.ifCond .eq 7, 3) := by decide +kernel
theorem dX12_readTerm_91 : decode cX12_readTerm 91 = .ok (.iconst 1, 1) := by decide +kernel
theorem dX12_readTerm_92 : decode cX12_readTerm 92 = .ok (.goto 29, 3) := by decide +kernel
theorem dX12_readTerm_95 : decode cX12_readTerm 95 = .ok (.aload_n 0, 1) := by decide +kernel
theorem dX12_readTerm_96 : decode cX12_readTerm 96 = .ok (.iconst 5, 1) := by decide +kernel
theorem dX12_readTerm_97 : decode cX12_readTerm 97 = .ok (.invokevirtual 192, 3) := by decide +kernel
theorem dX12_readTerm_100 : decode cX12_readTerm 100 = .ok (.ifCond .eq 7, 3) := by decide +kernel
theorem dX12_readTerm_103 : decode cX12_readTerm 103 = .ok (.iconst 2, 1) := by decide +kernel
theorem dX12_readTerm_104 : decode cX12_readTerm 104 = .ok (.goto 17, 3) := by decide +kernel
theorem dX12_readTerm_107 : decode cX12_readTerm 107 = .ok (.aload_n 0, 1) := by decide +kernel
theorem dX12_readTerm_108 : decode cX12_readTerm 108 = .ok (.bipush 6, 2) := by decide +kernel
theorem dX12_readTerm_110 : decode cX12_readTerm 110 = .ok (.invokevirtual 192, 3) := by decide +kernel
theorem dX12_readTerm_113 : decode cX12_readTerm 113 = .ok (.ifCond .eq 7, 3) := by decide +kernel
theorem dX12_readTerm_116 : decode cX12_readTerm 116 = .ok (.iconst 3, 1) := by decide +kernel
theorem dX12_readTerm_117 : decode cX12_readTerm 117 = .ok (.goto 4, 3) := by decide +kernel
theorem dX12_readTerm_120 : decode cX12_readTerm 120 = .ok (.iconst 0, 1) := by decide +kernel
theorem dX12_readTerm_121 : decode cX12_readTerm 121 = .ok (.iastore, 1) := by decide +kernel
theorem dX12_readTerm_122 : decode cX12_readTerm 122 = .ok (.aload_n 0, 1) := by decide +kernel
theorem dX12_readTerm_123 : decode cX12_readTerm 123 = .ok (.dup, 1) := by decide +kernel
theorem dX12_readTerm_124 : decode cX12_readTerm 124 = .ok (.getfield 179, 3) := by decide +kernel
theorem dX12_readTerm_127 : decode cX12_readTerm 127 = .ok (.aload_n 0, 1) := by decide +kernel
theorem dX12_readTerm_128 : decode cX12_readTerm 128 = .ok (.getfield 74, 3) := by decide +kernel
theorem dX12_readTerm_131 : decode cX12_readTerm 131 = .ok (.iload_n 2, 1) := by decide +kernel
theorem dX12_readTerm_132 : decode cX12_readTerm 132 = .ok (.iaload, 1) := by decide +kernel
theorem dX12_readTerm_133 : decode cX12_readTerm 133 = .ok (.ifCond .ne 7, 3) := by decide +kernel
theorem dX12_readTerm_136 : decode cX12_readTerm 136 = .ok (.iconst 0, 1) := by decide +kernel
theorem dX12_readTerm_137 : decode cX12_readTerm 137 = .ok (.goto 4, 3) := by decide +kernel
theorem dX12_readTerm_140 : decode cX12_readTerm 140 = .ok (.iconst 1, 1) := by decide +kernel
theorem dX12_readTerm_141 : decode cX12_readTerm 141 = .ok (.iadd, 1) := by decide +kernel
theorem dX12_readTerm_142 : decode cX12_readTerm 142 = .ok (.putfield 179, 3) := by decide +kernel
theorem dX12_readTerm_145 : decode cX12_readTerm 145 = .ok (.iload_n 1, 1) := by decide +kernel
theorem dX12_readTerm_146 : decode cX12_readTerm 146 = .ok (.ifCond .eq 19, 3) := by decide +kernel
theorem dX12_readTerm_149 : decode cX12_readTerm 149 = .ok (.aload_n 0, 1) := by decide +kernel
theorem dX12_readTerm_150 : decode cX12_readTerm 150 = .ok (.getfield 24, 3) := by decide +kernel
theorem dX12_readTerm_153 : decode cX12_readTerm 153 = .ok (.aload_n 0, 1) := by decide +kernel
theorem dX12_readTerm_154 : decode cX12_readTerm 154 = .ok (.getfield 179, 3) := by decide +kernel
theorem dX12_readTerm_157 : decode cX12_readTerm 157 = .ok (.iaload, 1) := by decide +kernel
theorem dX12_readTerm_158 : decode cX12_readTerm 158 = .ok (.iconst 2, 1) := by decide +kernel
theorem dX12_readTerm_159 : decode cX12_readTerm 159 = .ok (.if_icmp .eq 18, 3) := by decide +kernel
theorem dX12_readTerm_162 : decode cX12_readTerm 162 = .ok (.goto 10, 3) := by decide +kernel
theorem dX12_readTerm_165 : decode cX12_readTerm 165 = .ok (.aload_n 0, 1) := by decide +kernel
theorem dX12_readTerm_166 : decode cX12_readTerm 166 = .ok (.invokevirtual 207, 3) := by decide +kernel
theorem dX12_readTerm_169 : decode cX12_readTerm 169 = .ok (.ifCond .ne 8, 3) := by decide +kernel
theorem dX12_readTerm_172 : decode cX12_readTerm 172 = .ok (.aload_n 0, 1) := by decide +kernel
theorem dX12_readTerm_173 : decode cX12_readTerm 173 = .ok (.iconst 1, 1) := by decide +kernel
theorem dX12_readTerm_174 : decode cX12_readTerm 174 = .ok (.invokevirtual 188, 3) := by decide +kernel
theorem dX12_readTerm_177 : decode cX12_readTerm 177 = .ok (.aload_n 0, 1) := by decide +kernel
theorem dX12_readTerm_178 : decode cX12_readTerm 178 = .ok (.getfield 182, 3) := by decide +kernel
theorem dX12_readTerm_181 : decode cX12_readTerm 181 = .ok (.ifCond .le 4, 3) := by decide +kernel
theorem dX12_readTerm_184 : decode cX12_readTerm 184 = .ok (.return_, 1) := by decide +kernel
theorem dX12_readTerm_185 : decode cX12_readTerm 185 = .ok (.aload_n 0, 1) := by decide +kernel
theorem dX12_readTerm_186 : decode cX12_readTerm 186 = .ok (.getfield 77, 3) := by decide +kernel
theorem dX12_readTerm_189 : decode cX12_readTerm 189 = .ok (.iload_n 2, 1) := by decide +kernel
theorem dX12_readTerm_190 : decode cX12_readTerm 190 = .ok (.aload_n 0, 1) := by decide +kernel
theorem dX12_readTerm_191 : decode cX12_readTerm 191 = .ok (.getfield 30, 3) := by decide +kernel
theorem dX12_readTerm_194 : decode cX12_readTerm 194 = .ok (.aload_n 0, 1) := by decide +kernel
theorem dX12_readTerm_195 : decode cX12_readTerm 195 = .ok (.getfield 179, 3) := by decide +kernel
theorem dX12_readTerm_198 : decode cX12_readTerm 198 = .ok (.laload, 1) := by decide +kernel
theorem dX12_readTerm_199 : decode cX12_readTerm 199 = .ok (.lastore, 1) := by decide +kernel
theorem dX12_readTerm_200 : decode cX12_readTerm 200 = .ok (.aload_n 0, 1) := by decide +kernel
theorem dX12_readTerm_201 : decode cX12_readTerm 201 = .ok (.dup, 1) := by decide +kernel
theorem dX12_readTerm_202 : decode cX12_readTerm 202 = .ok (.getfield 179, 3) := by decide +kernel
theorem dX12_readTerm_205 : decode cX12_readTerm 205 = .ok (.iconst 1, 1) := by decide +kernel
theorem dX12_readTerm_206 : decode cX12_readTerm 206 = .ok (.iadd, 1) := by decide +kernel
theorem dX12_readTerm_207 : decode cX12_readTerm 207 = .ok (.putfield 179, 3) := by decide +kernel
theorem dX12_readTerm_210 : decode cX12_readTerm 210 = .ok (.aload_n 0, 1) := by decide +kernel
theorem dX12_readTerm_211 : decode cX12_readTerm 211 = .ok (.dup, 1) := by decide +kernel
theorem dX12_readTerm_212 : decode cX12_readTerm 212 = .ok (.getfield 254, 3) := by decide +kernel
theorem dX12_readTerm_215 : decode cX12_readTerm 215 = .ok (.iconst 1, 1) := by decide +kernel
theorem dX12_readTerm_216 : decode cX12_readTerm 216 = .ok (.iadd, 1) := by decide +kernel
theorem dX12_readTerm_217 : decode cX12_readTerm 217 = .ok (.putfield 254, 3) := by decide +kernel
theorem dX12_readTerm_220 : decode cX12_readTerm 220 = .ok (.return_, 1) := by decide +kernel
theorem dX12_ask_0 : decode cX12_ask 0 = .ok (.aload_n 0, 1) := by decide +kernel
theorem dX12_ask_1 : decode cX12_ask 1 = .ok (.iconst 0, 1) := by decide +kernel
theorem dX12_ask_2 : decode cX12_ask 2 = .ok (.putfield 1, 3) := by decide +kernel
theorem dX12_ask_5 : decode cX12_ask 5 = .ok (.aload_n 0, 1) := by decide +kernel
theorem dX12_ask_6 : decode cX12_ask 6 = .ok (.invokevirtual 198, 3) := by decide +kernel
theorem dX12_ask_9 : decode cX12_ask 9 = .ok (.aload_n 0, 1) := by decide +kernel
theorem dX12_ask_10 : decode cX12_ask 10 = .ok (.iconst 0, 1) := by decide +kernel
theorem dX12_ask_11 : decode cX12_ask 11 = .ok (.putfield 254, 3) := by decide +kernel
theorem dX12_ask_14 : decode cX12_ask 14 = .ok (.aload_n 0, 1) := by decide +kernel
theorem dX12_ask_15 : decode cX12_ask 15 = .ok (.invokevirtual 257, 3) := by decide +kernel
theorem dX12_ask_18 : decode cX12_ask 18 = .ok (.aload_n 0, 1) := by decide +kernel
theorem dX12_ask_19 : decode cX12_ask 19 = .ok (.getfield 182, 3) := by decide +kernel
theorem dX12_ask_22 : decode cX12_ask 22 = .ok (.ifCond .ne 22, 3) := by decide +kernel
theorem dX12_ask_25 : decode cX12_ask 25 = .ok (.aload_n 0, 1) := by decide +kernel
theorem dX12_ask_26 : decode cX12_ask 26 = .ok (.getfield 24, 3) := by decide +kernel
theorem dX12_ask_29 : decode cX12_ask 29 = .ok (.aload_n 0, 1) := by decide +kernel
theorem dX12_ask_30 : decode cX12_ask 30 = .ok (.getfield 179, 3) := by decide +kernel
theorem dX12_ask_33 : decode cX12_ask 33 = .ok (.iaload, 1) := by decide +kernel
theorem dX12_ask_34 : decode cX12_ask 34 = .ok (.ifCond .eq 10, 3) := by decide +kernel
theorem dX12_ask_37 : decode cX12_ask 37 = .ok (.aload_n 0, 1) := by decide +kernel
theorem dX12_ask_38 : decode cX12_ask 38 = .ok (.invokevirtual 257, 3) := by decide +kernel
theorem dX12_ask_41 : decode cX12_ask 41 = .ok (.goto (-23), 3) := by decide +kernel
theorem dX12_ask_44 : decode cX12_ask 44 = .ok (.aload_n 0, 1) := by decide +kernel
theorem dX12_ask_45 : decode cX12_ask 45 = .ok (.getfield 182, 3) := by decide +kernel
theorem dX12_ask_48 : decode cX12_ask 48 = .ok (.ifCond .ne 57, 3) := by decide +kernel
theorem dX12_ask_51 : decode cX12_ask 51 = .ok (.aload_n 0, 1) := by decide +kernel
theorem dX12_ask_52 : decode cX12_ask 52 = .ok (.aload_n 0, 1) := by decide +kernel
theorem dX12_ask_53 : decode cX12_ask 53 = .ok (.getfield 254, 3) := by decide +kernel
theorem dX12_ask_56 : decode cX12_ask 56 = .ok (.putfield 226, 3) := by decide +kernel
theorem dX12_ask_59 : decode cX12_ask 59 = .ok (.iconst 0, 1) := by decide +kernel
theorem dX12_ask_60 : decode cX12_ask 60 = .ok (.istore_n 1, 1) := by decide +kernel
theorem dX12_ask_61 : decode cX12_ask 61 = .ok (.iload_n 1, 1) := by decide +kernel
theorem dX12_ask_62 : decode cX12_ask 62 = .ok (.iconst 4, 1) := by decide +kernel
theorem dX12_ask_63 : decode cX12_ask 63 = .ok (.if_icmp .ge 37, 3) := by decide +kernel
theorem dX12_ask_66 : decode cX12_ask 66 = .ok (.aload_n 0, 1) := by decide +kernel
theorem dX12_ask_67 : decode cX12_ask 67 = .ok (.getfield 74, 3) := by decide +kernel
theorem dX12_ask_70 : decode cX12_ask 70 = .ok (.iload_n 1, 1) := by decide +kernel
theorem dX12_ask_71 : decode cX12_ask 71 = .ok (.aload_n 0, 1) := by decide +kernel
theorem dX12_ask_72 : decode cX12_ask 72 = .ok (.getfield 74, 3) := by decide +kernel
theorem dX12_ask_75 : decode cX12_ask 75 = .ok (.iconst 4, 1) := by decide +kernel
theorem dX12_ask_76 : decode cX12_ask 76 = .ok (.iload_n 1, 1) := by decide +kernel
theorem dX12_ask_77 : decode cX12_ask 77 = .ok (.iadd, 1) := by decide +kernel
theorem dX12_ask_78 : decode cX12_ask 78 = .ok (.iaload, 1) := by decide +kernel
theorem dX12_ask_79 : decode cX12_ask 79 = .ok (.iastore, 1) := by decide +kernel
theorem dX12_ask_80 : decode cX12_ask 80 = .ok (.aload_n 0, 1) := by decide +kernel
theorem dX12_ask_81 : decode cX12_ask 81 = .ok (.getfield 77, 3) := by decide +kernel
theorem dX12_ask_84 : decode cX12_ask 84 = .ok (.iload_n 1, 1) := by decide +kernel
theorem dX12_ask_85 : decode cX12_ask 85 = .ok (.aload_n 0, 1) := by decide +kernel
theorem dX12_ask_86 : decode cX12_ask 86 = .ok (.getfield 77, 3) := by decide +kernel
theorem dX12_ask_89 : decode cX12_ask 89 = .ok (.iconst 4, 1) := by decide +kernel
theorem dX12_ask_90 : decode cX12_ask 90 = .ok (.iload_n 1, 1) := by decide +kernel
theorem dX12_ask_91 : decode cX12_ask 91 = .ok (.iadd, 1) := by decide +kernel
theorem dX12_ask_92 : decode cX12_ask 92 = .ok (.laload, 1) := by decide +kernel
theorem dX12_ask_93 : decode cX12_ask 93 = .ok (.lastore, 1) := by decide +kernel
theorem dX12_ask_94 : decode cX12_ask 94 = .ok (.iinc 1 1, 3) := by decide +kernel
theorem dX12_ask_97 : decode cX12_ask 97 = .ok (.goto (-36), 3) := by decide +kernel
theorem dX12_ask_100 : decode cX12_ask 100 = .ok (.aload_n 0, 1) := by decide +kernel
theorem dX12_ask_101 : decode cX12_ask 101 = .ok (.iconst 1, 1) := by decide +kernel
theorem dX12_ask_102 : decode cX12_ask 102 = .ok (.putfield 152, 3) := by decide +kernel
theorem dX12_ask_105 : decode cX12_ask 105 = .ok (.aload_n 0, 1) := by decide +kernel
theorem dX12_ask_106 : decode cX12_ask 106 = .ok (.getfield 182, 3) := by decide +kernel
theorem dX12_ask_109 : decode cX12_ask 109 = .ok (.ireturn, 1) := by decide +kernel
theorem dX12_question_0 : decode cX12_question 0 = .ok (.aload_n 0, 1) := by decide +kernel
theorem dX12_question_1 : decode cX12_question 1 = .ok (.iconst 0, 1) := by decide +kernel
theorem dX12_question_2 : decode cX12_question 2 = .ok (.putfield 1, 3) := by decide +kernel
theorem dX12_question_5 : decode cX12_question 5 = .ok (.aload_n 0, 1) := by decide +kernel
theorem dX12_question_6 : decode cX12_question 6 = .ok (.invokevirtual 198, 3) := by decide +kernel
theorem dX12_question_9 : decode cX12_question 9 = .ok (.aload_n 0, 1) := by decide +kernel
theorem dX12_question_10 : decode cX12_question 10 = .ok (.iconst 0, 1) := by decide +kernel
theorem dX12_question_11 : decode cX12_question 11 = .ok (.putfield 254, 3) := by decide +kernel
theorem dX12_question_14 : decode cX12_question 14 = .ok (.iconst 0, 1) := by decide +kernel
theorem dX12_question_15 : decode cX12_question 15 = .ok (.istore_n 1, 1) := by decide +kernel
theorem dX12_question_16 : decode cX12_question 16 = .ok (.iload_n 1, 1) := by decide +kernel
theorem dX12_question_17 : decode cX12_question 17 = .ok (.iconst 5, 1) := by decide +kernel
theorem dX12_question_18 : decode cX12_question 18 = .ok (.if_icmp .ge 16, 3) := by decide +kernel
theorem dX12_question_21 : decode cX12_question 21 = .ok (.aload_n 0, 1) := by decide +kernel
theorem dX12_question_22 : decode cX12_question 22 = .ok (.getfield 80, 3) := by decide +kernel
theorem dX12_question_25 : decode cX12_question 25 = .ok (.iload_n 1, 1) := by decide +kernel
theorem dX12_question_26 : decode cX12_question 26 = .ok (.iconst 0, 1) := by decide +kernel
theorem dX12_question_27 : decode cX12_question 27 = .ok (.iastore, 1) := by decide +kernel
theorem dX12_question_28 : decode cX12_question 28 = .ok (.iinc 1 1, 3) := by decide +kernel
theorem dX12_question_31 : decode cX12_question 31 = .ok (.goto (-15), 3) := by decide +kernel
theorem dX12_question_34 : decode cX12_question 34 = .ok (.iconst 0, 1) := by decide +kernel
theorem dX12_question_35 : decode cX12_question 35 = .ok (.istore_n 1, 1) := by decide +kernel
theorem dX12_question_36 : decode cX12_question 36 = .ok (.iconst 1, 1) := by decide +kernel
theorem dX12_question_37 : decode cX12_question 37 = .ok (.istore_n 2, 1) := by decide +kernel
theorem dX12_question_38 : decode cX12_question 38 = .ok (.aload_n 0, 1) := by decide +kernel
theorem dX12_question_39 : decode cX12_question 39 = .ok (.getfield 182, 3) := by decide +kernel
theorem dX12_question_42 : decode cX12_question 42 = .ok (.ifCond .ne 101, 3) := by decide +kernel
theorem dX12_question_45 : decode cX12_question 45 = .ok (.iload_n 2, 1) := by decide +kernel
theorem dX12_question_46 : decode cX12_question 46 = .ok (.ifCond .eq 97, 3) := by decide +kernel
theorem dX12_question_49 : decode cX12_question 49 = .ok (.aload_n 0, 1) := by decide +kernel
theorem dX12_question_50 : decode cX12_question 50 = .ok (.invokevirtual 207, 3) := by decide +kernel
theorem dX12_question_53 : decode cX12_question 53 = .ok (.ifCond .eq 11, 3) := by decide +kernel
theorem dX12_question_56 : decode cX12_question 56 = .ok (.aload_n 0, 1) := by decide +kernel
theorem dX12_question_57 : decode cX12_question 57 = .ok (.iconst 0, 1) := by decide +kernel
theorem dX12_question_58 : decode cX12_question 58 = .ok (.invokevirtual 211, 3) := by decide +kernel
theorem dX12_question_61 : decode cX12_question 61 = .ok (.goto 4, 3) := by decide +kernel
theorem dX12_question_64 : decode cX12_question 64 = .ok (.iconst (-1), 1) := by decide +kernel
theorem dX12_question_65 : decode cX12_question 65 = .ok (.istore_n 3, 1) := by decide +kernel
theorem dX12_question_66 : decode cX12_question 66 = .ok (.aload_n 0, 1) := by decide +kernel
theorem dX12_question_67 : decode cX12_question 67 = .ok (.invokevirtual 207, 3) := by decide +kernel
theorem dX12_question_70 : decode cX12_question 70 = .ok (.ifCond .ne 11, 3) := by decide +kernel
theorem dX12_question_73 : decode cX12_question 73 = .ok (.aload_n 0, 1) := by decide +kernel
theorem dX12_question_74 : decode cX12_question 74 = .ok (.iconst 1, 1) := by decide +kernel
theorem dX12_question_75 : decode cX12_question 75 = .ok (.invokevirtual 188, 3) := by decide +kernel
theorem dX12_question_78 : decode cX12_question 78 = .ok (.goto 25, 3) := by decide +kernel
theorem dX12_question_81 : decode cX12_question 81 = .ok (.iload_n 3, 1) := by decide +kernel
theorem dX12_question_82 : decode cX12_question 82 = .ok (.ifCond .ge 11, 3) := by decide +kernel
theorem dX12_question_85 : decode cX12_question 85 = .ok (.aload_n 0, 1) := by decide +kernel
theorem dX12_question_86 : decode cX12_question 86 = .ok (.iconst 2, 1) := by decide +kernel
theorem dX12_question_87 : decode cX12_question 87 = .ok (.invokevirtual 188, 3) := by decide +kernel
theorem dX12_question_90 : decode cX12_question 90 = .ok (.goto 13, 3) := by decide +kernel
theorem dX12_question_93 : decode cX12_question 93 = .ok (.iload_n 1, 1) := by decide +kernel
theorem dX12_question_94 : decode cX12_question 94 = .ok (.iconst 5, 1) := by decide +kernel
theorem dX12_question_95 : decode cX12_question 95 = .ok (.if_icmp .ne 8, 3) := by decide +kernel
theorem dX12_question_98 : decode cX12_question 98 = .ok (.aload_n 0, 1) := by decide +kernel
theorem dX12_question_99 : decode cX12_question 99 = .ok (.iconst 5, 1) := by decide +kernel
theorem dX12_question_100 : decode cX12_question 100 = .ok (.invokevirtual 188, 3) := by decide +kernel
theorem dX12_question_103 : decode cX12_question 103 = .ok (.aload_n 0, 1) := by decide +kernel
theorem dX12_question_104 : decode cX12_question 104 = .ok (.getfield 182, 3) := by decide +kernel
theorem dX12_question_107 : decode cX12_question 107 = .ok (.ifCond .ne 26, 3) := by decide +kernel
theorem dX12_question_110 : decode cX12_question 110 = .ok (.aload_n 0, 1) := by decide +kernel
theorem dX12_question_111 : decode cX12_question 111 = .ok (.getfield 80, 3) := by decide +kernel
theorem dX12_question_114 : decode cX12_question 114 = .ok (.iload_n 3, 1) := by decide +kernel
theorem dX12_question_115 : decode cX12_question 115 = .ok (.dup2, 1) := by decide +kernel
theorem dX12_question_116 : decode cX12_question 116 = .ok (.iaload, 1) := by decide +kernel
theorem dX12_question_117 : decode cX12_question 117 = .ok (.iconst 1, 1) := by decide +kernel
theorem dX12_question_118 : decode cX12_question 118 = .ok (.iadd, 1) := by decide +kernel
theorem dX12_question_119 : decode cX12_question 119 = .ok (.iastore, 1) := by decide +kernel
theorem dX12_question_120 : decode cX12_question 120 = .ok (.iinc 1 1, 3) := by decide +kernel
theorem dX12_question_123 : decode cX12_question 123 = .ok (.aload_n 0, 1) := by decide +kernel
theorem dX12_question_124 : decode cX12_question 124 = .ok (.dup, 1) := by decide +kernel
theorem dX12_question_125 : decode cX12_question 125 = .ok (.getfield 179, 3) := by decide +kernel
theorem dX12_question_128 : decode cX12_question 128 = .ok (.iconst 1, 1) := by decide +kernel
theorem dX12_question_129 : decode cX12_question 129 = .ok (.iadd, 1) := by decide +kernel
theorem dX12_question_130 : decode cX12_question 130 = .ok (.putfield 179, 3) := by decide +kernel
theorem dX12_question_133 : decode cX12_question 133 = .ok (.aload_n 0, 1) := by decide +kernel
theorem dX12_question_134 : decode cX12_question 134 = .ok (.bipush 44, 2) := by decide +kernel
theorem dX12_question_136 : decode cX12_question 136 = .ok (.invokevirtual 217, 3) := by decide +kernel
theorem dX12_question_139 : decode cX12_question 139 = .ok (.istore_n 2, 1) := by decide +kernel
theorem dX12_question_140 : decode cX12_question 140 = .ok (.goto (-102), 3) := by decide +kernel
theorem dX12_question_143 : decode cX12_question 143 = .ok (.aload_n 0, 1) := by decide +kernel
theorem dX12_question_144 : decode cX12_question 144 = .ok (.bipush 58, 2) := by decide +kernel
theorem dX12_question_146 : decode cX12_question 146 = .ok (.invokevirtual 220, 3) := by decide +kernel
theorem dX12_question_149 : decode cX12_question 149 = .ok (.aload_n 0, 1) := by decide +kernel
theorem dX12_question_150 : decode cX12_question 150 = .ok (.invokevirtual 260, 3) := by decide +kernel
theorem dX12_question_153 : decode cX12_question 153 = .ok (.aload_n 0, 1) := by decide +kernel
theorem dX12_question_154 : decode cX12_question 154 = .ok (.bipush 44, 2) := by decide +kernel
theorem dX12_question_156 : decode cX12_question 156 = .ok (.invokevirtual 217, 3) := by decide +kernel
theorem dX12_question_159 : decode cX12_question 159 = .ok (.ifCond .eq 10, 3) := by decide +kernel
theorem dX12_question_162 : decode cX12_question 162 = .ok (.aload_n 0, 1) := by decide +kernel
theorem dX12_question_163 : decode cX12_question 163 = .ok (.invokevirtual 260, 3) := by decide +kernel
theorem dX12_question_166 : decode cX12_question 166 = .ok (.goto (-13), 3) := by decide +kernel
theorem dX12_question_169 : decode cX12_question 169 = .ok (.aload_n 0, 1) := by decide +kernel
theorem dX12_question_170 : decode cX12_question 170 = .ok (.getfield 182, 3) := by decide +kernel
theorem dX12_question_173 : decode cX12_question 173 = .ok (.ifCond .ne 20, 3) := by decide +kernel
theorem dX12_question_176 : decode cX12_question 176 = .ok (.aload_n 0, 1) := by decide +kernel
theorem dX12_question_177 : decode cX12_question 177 = .ok (.getfield 24, 3) := by decide +kernel
theorem dX12_question_180 : decode cX12_question 180 = .ok (.aload_n 0, 1) := by decide +kernel
theorem dX12_question_181 : decode cX12_question 181 = .ok (.getfield 179, 3) := by decide +kernel
theorem dX12_question_184 : decode cX12_question 184 = .ok (.iaload, 1) := by decide +kernel
theorem dX12_question_185 : decode cX12_question 185 = .ok (.ifCond .eq 8, 3) := by decide +kernel
theorem dX12_question_188 : decode cX12_question 188 = .ok (.aload_n 0, 1) := by decide +kernel
theorem dX12_question_189 : decode cX12_question 189 = .ok (.iconst 1, 1) := by decide +kernel
theorem dX12_question_190 : decode cX12_question 190 = .ok (.invokevirtual 188, 3) := by decide +kernel
theorem dX12_question_193 : decode cX12_question 193 = .ok (.aload_n 0, 1) := by decide +kernel
theorem dX12_question_194 : decode cX12_question 194 = .ok (.getfield 182, 3) := by decide +kernel
theorem dX12_question_197 : decode cX12_question 197 = .ok (.ifCond .le 14, 3) := by decide +kernel
theorem dX12_question_200 : decode cX12_question 200 = .ok (.aload_n 0, 1) := by decide +kernel
theorem dX12_question_201 : decode cX12_question 201 = .ok (.getfield 182, 3) := by decide +kernel
theorem dX12_question_204 : decode cX12_question 204 = .ok (.ldc_w 263, 3) := by decide +kernel
theorem dX12_question_207 : decode cX12_question 207 = .ok (.iadd, 1) := by decide +kernel
theorem dX12_question_208 : decode cX12_question 208 = .ok (.goto 7, 3) := by decide +kernel
theorem dX12_question_211 : decode cX12_question 211 = .ok (.aload_n 0, 1) := by decide +kernel
theorem dX12_question_212 : decode cX12_question 212 = .ok (.invokevirtual 264, 3) := by decide +kernel
theorem dX12_question_215 : decode cX12_question 215 = .ok (.ireturn, 1) := by decide +kernel
theorem dX12_readOfTerm_0 : decode cX12_readOfTerm 0 = .ok (.aload_n 0, 1) := by decide +kernel
theorem dX12_readOfTerm_1 : decode cX12_readOfTerm 1 = .ok (.invokevirtual 257, 3) := by decide +kernel
theorem dX12_readOfTerm_4 : decode cX12_readOfTerm 4 = .ok (.aload_n 0, 1) := by decide +kernel
theorem dX12_readOfTerm_5 : decode cX12_readOfTerm 5 = .ok (.bipush 7, 2) := by decide +kernel
theorem dX12_readOfTerm_7 : decode cX12_readOfTerm 7 = .ok (.invokevirtual 268, 3) := by decide +kernel
theorem dX12_readOfTerm_10 : decode cX12_readOfTerm 10 = .ok (.aload_n 0, 1) := by decide +kernel
theorem dX12_readOfTerm_11 : decode cX12_readOfTerm 11 = .ok (.invokevirtual 207, 3) := by decide +kernel
theorem dX12_readOfTerm_14 : decode cX12_readOfTerm 14 = .ok (.ifCond .eq 11, 3) := by decide +kernel
theorem dX12_readOfTerm_17 : decode cX12_readOfTerm 17 = .ok (.aload_n 0, 1) := by decide +kernel
theorem dX12_readOfTerm_18 : decode cX12_readOfTerm 18 = .ok (.iconst 0, 1) := by decide +kernel
theorem dX12_readOfTerm_19 : decode cX12_readOfTerm 19 = .ok (.invokevirtual 211, 3) := by decide +kernel
theorem dX12_readOfTerm_22 : decode cX12_readOfTerm 22 = .ok (.goto 4, 3) := by decide +kernel
theorem dX12_readOfTerm_25 : decode cX12_readOfTerm 25 = .ok (.iconst (-1), 1) := by decide +kernel
theorem dX12_readOfTerm_26 : decode cX12_readOfTerm 26 = .ok (.istore_n 1, 1) := by decide +kernel
theorem dX12_readOfTerm_27 : decode cX12_readOfTerm 27 = .ok (.aload_n 0, 1) := by decide +kernel
theorem dX12_readOfTerm_28 : decode cX12_readOfTerm 28 = .ok (.getfield 182, 3) := by decide +kernel
theorem dX12_readOfTerm_31 : decode cX12_readOfTerm 31 = .ok (.ifCond .ne 18, 3) := by decide +kernel
theorem dX12_readOfTerm_34 : decode cX12_readOfTerm 34 = .ok (.aload_n 0, 1) := by decide +kernel
theorem dX12_readOfTerm_35 : decode cX12_readOfTerm 35 = .ok (.invokevirtual 207, 3) := by decide +kernel
theorem dX12_readOfTerm_38 : decode cX12_readOfTerm 38 = .ok (.ifCond .ne 11, 3) := by decide +kernel
theorem dX12_readOfTerm_41 : decode cX12_readOfTerm 41 = .ok (.aload_n 0, 1) := by decide +kernel
theorem dX12_readOfTerm_42 : decode cX12_readOfTerm 42 = .ok (.iconst 1, 1) := by decide +kernel
theorem dX12_readOfTerm_43 : decode cX12_readOfTerm 43 = .ok (.invokevirtual 188, 3) := by decide +kernel
theorem dX12_readOfTerm_46 : decode cX12_readOfTerm 46 = .ok (.goto 19, 3) := by decide +kernel
theorem dX12_readOfTerm_49 : decode cX12_readOfTerm 49 = .ok (.aload_n 0, 1) := by decide +kernel
theorem dX12_readOfTerm_50 : decode cX12_readOfTerm 50 = .ok (.getfield 182, 3) := by decide +kernel
theorem dX12_readOfTerm_53 : decode cX12_readOfTerm 53 = .ok (.ifCond .ne 12, 3) := by decide +kernel
theorem dX12_readOfTerm_56 : decode cX12_readOfTerm 56 = .ok (.iload_n 1, 1) := by decide +kernel
theorem dX12_readOfTerm_57 : decode cX12_readOfTerm 57 = .ok (.ifCond .ge 8, 3) := by decide +kernel
theorem dX12_readOfTerm_60 : decode cX12_readOfTerm 60 = .ok (.aload_n 0, 1) := by decide +kernel
theorem dX12_readOfTerm_61 : decode cX12_readOfTerm 61 = .ok (.iconst 2, 1) := by decide +kernel
theorem dX12_readOfTerm_62 : decode cX12_readOfTerm 62 = .ok (.invokevirtual 188, 3) := by decide +kernel
theorem dX12_readOfTerm_65 : decode cX12_readOfTerm 65 = .ok (.aload_n 0, 1) := by decide +kernel
theorem dX12_readOfTerm_66 : decode cX12_readOfTerm 66 = .ok (.getfield 182, 3) := by decide +kernel
theorem dX12_readOfTerm_69 : decode cX12_readOfTerm 69 = .ok (.ifCond .ne 25, 3) := by decide +kernel
theorem dX12_readOfTerm_72 : decode cX12_readOfTerm 72 = .ok (.aload_n 0, 1) := by decide +kernel
theorem dX12_readOfTerm_73 : decode cX12_readOfTerm 73 = .ok (.getfield 83, 3) := by decide +kernel
theorem dX12_readOfTerm_76 : decode cX12_readOfTerm 76 = .ok (.aload_n 0, 1) := by decide +kernel
theorem dX12_readOfTerm_77 : decode cX12_readOfTerm 77 = .ok (.getfield 254, 3) := by decide +kernel
theorem dX12_readOfTerm_80 : decode cX12_readOfTerm 80 = .ok (.iconst 1, 1) := by decide +kernel
theorem dX12_readOfTerm_81 : decode cX12_readOfTerm 81 = .ok (.isub, 1) := by decide +kernel
theorem dX12_readOfTerm_82 : decode cX12_readOfTerm 82 = .ok (.iload_n 1, 1) := by decide +kernel
theorem dX12_readOfTerm_83 : decode cX12_readOfTerm 83 = .ok (.iastore, 1) := by decide +kernel
theorem dX12_readOfTerm_84 : decode cX12_readOfTerm 84 = .ok (.aload_n 0, 1) := by decide +kernel
theorem dX12_readOfTerm_85 : decode cX12_readOfTerm 85 = .ok (.dup, 1) := by decide +kernel
theorem dX12_readOfTerm_86 : decode cX12_readOfTerm 86 = .ok (.getfield 179, 3) := by decide +kernel
theorem dX12_readOfTerm_89 : decode cX12_readOfTerm 89 = .ok (.iconst 1, 1) := by decide +kernel
theorem dX12_readOfTerm_90 : decode cX12_readOfTerm 90 = .ok (.iadd, 1) := by decide +kernel
theorem dX12_readOfTerm_91 : decode cX12_readOfTerm 91 = .ok (.putfield 179, 3) := by decide +kernel
theorem dX12_readOfTerm_94 : decode cX12_readOfTerm 94 = .ok (.return_, 1) := by decide +kernel
theorem dX12_findAsked_0 : decode cX12_findAsked 0 = .ok (.aload_n 0, 1) := by decide +kernel
theorem dX12_findAsked_1 : decode cX12_findAsked 1 = .ok (.getfield 226, 3) := by decide +kernel
theorem dX12_findAsked_4 : decode cX12_findAsked 4 = .ok (.ifCond .eq 14, 3) := by decide +kernel
theorem dX12_findAsked_7 : decode cX12_findAsked 7 = .ok (.aload_n 0, 1) := by decide +kernel
theorem dX12_findAsked_8 : decode cX12_findAsked 8 = .ok (.getfield 226, 3) := by decide +kernel
theorem dX12_findAsked_11 : decode cX12_findAsked 11 = .ok (.aload_n 0, 1) := by decide +kernel
theorem dX12_findAsked_12 : decode cX12_findAsked 12 = .ok (.getfield 254, 3) := by decide +kernel
theorem dX12_findAsked_15 : decode cX12_findAsked 15 = .ok (.if_icmp .eq 5, 3) := by decide +kernel
theorem dX12_findAsked_18 : decode cX12_findAsked 18 = .ok (.iconst (-1), 1) := by decide +kernel
theorem dX12_findAsked_19 : decode cX12_findAsked 19 = .ok (.ireturn, 1) := by decide +kernel
theorem dX12_findAsked_20 : decode cX12_findAsked 20 = .ok (.iconst 0, 1) := by decide +kernel
theorem dX12_findAsked_21 : decode cX12_findAsked 21 = .ok (.istore_n 1, 1) := by decide +kernel
theorem dX12_findAsked_22 : decode cX12_findAsked 22 = .ok (.iload_n 1, 1) := by decide +kernel
theorem dX12_findAsked_23 : decode cX12_findAsked 23 = .ok (.aload_n 0, 1) := by decide +kernel
theorem dX12_findAsked_24 : decode cX12_findAsked 24 = .ok (.getfield 226, 3) := by decide +kernel
theorem dX12_findAsked_27 : decode cX12_findAsked 27 = .ok (.if_icmp .ge 46, 3) := by decide +kernel
theorem dX12_findAsked_30 : decode cX12_findAsked 30 = .ok (.aload_n 0, 1) := by decide +kernel
theorem dX12_findAsked_31 : decode cX12_findAsked 31 = .ok (.getfield 74, 3) := by decide +kernel
theorem dX12_findAsked_34 : decode cX12_findAsked 34 = .ok (.iload_n 1, 1) := by decide +kernel
theorem dX12_findAsked_35 : decode cX12_findAsked 35 = .ok (.iaload, 1) := by decide +kernel
theorem dX12_findAsked_36 : decode cX12_findAsked 36 = .ok (.aload_n 0, 1) := by decide +kernel
theorem dX12_findAsked_37 : decode cX12_findAsked 37 = .ok (.getfield 74, 3) := by decide +kernel
theorem dX12_findAsked_40 : decode cX12_findAsked 40 = .ok (.iconst 4, 1) := by decide +kernel
theorem dX12_findAsked_41 : decode cX12_findAsked 41 = .ok (.iload_n 1, 1) := by decide +kernel
theorem dX12_findAsked_42 : decode cX12_findAsked 42 = .ok (.iadd, 1) := by decide +kernel
theorem dX12_findAsked_43 : decode cX12_findAsked 43 = .ok (.iaload, 1) := by decide +kernel
theorem dX12_findAsked_44 : decode cX12_findAsked 44 = .ok (.if_icmp .ne 21, 3) := by decide +kernel
theorem dX12_findAsked_47 : decode cX12_findAsked 47 = .ok (.aload_n 0, 1) := by decide +kernel
theorem dX12_findAsked_48 : decode cX12_findAsked 48 = .ok (.getfield 77, 3) := by decide +kernel
theorem dX12_findAsked_51 : decode cX12_findAsked 51 = .ok (.iload_n 1, 1) := by decide +kernel
theorem dX12_findAsked_52 : decode cX12_findAsked 52 = .ok (.laload, 1) := by decide +kernel
theorem dX12_findAsked_53 : decode cX12_findAsked 53 = .ok (.aload_n 0, 1) := by decide +kernel
theorem dX12_findAsked_54 : decode cX12_findAsked 54 = .ok (.getfield 77, 3) := by decide +kernel
theorem dX12_findAsked_57 : decode cX12_findAsked 57 = .ok (.iconst 4, 1) := by decide +kernel
theorem dX12_findAsked_58 : decode cX12_findAsked 58 = .ok (.iload_n 1, 1) := by decide +kernel
theorem dX12_findAsked_59 : decode cX12_findAsked 59 = .ok (.iadd, 1) := by decide +kernel
theorem dX12_findAsked_60 : decode cX12_findAsked 60 = .ok (.laload, 1) := by decide +kernel
theorem dX12_findAsked_61 : decode cX12_findAsked 61 = .ok (.lcmp, 1) := by decide +kernel
theorem dX12_findAsked_62 : decode cX12_findAsked 62 = .ok (.ifCond .eq 5, 3) := by decide +kernel
theorem dX12_findAsked_65 : decode cX12_findAsked 65 = .ok (.iconst (-1), 1) := by decide +kernel
theorem dX12_findAsked_66 : decode cX12_findAsked 66 = .ok (.ireturn, 1) := by decide +kernel
theorem dX12_findAsked_67 : decode cX12_findAsked 67 = .ok (.iinc 1 1, 3) := by decide +kernel
theorem dX12_findAsked_70 : decode cX12_findAsked 70 = .ok (.goto (-48), 3) := by decide +kernel
theorem dX12_findAsked_73 : decode cX12_findAsked 73 = .ok (.aload_n 0, 1) := by decide +kernel
theorem dX12_findAsked_74 : decode cX12_findAsked 74 = .ok (.invokevirtual 271, 3) := by decide +kernel
theorem dX12_findAsked_77 : decode cX12_findAsked 77 = .ok (.iconst 0, 1) := by decide +kernel
theorem dX12_findAsked_78 : decode cX12_findAsked 78 = .ok (.istore_n 1, 1) := by decide +kernel
theorem dX12_findAsked_79 : decode cX12_findAsked 79 = .ok (.iconst 4, 1) := by decide +kernel
theorem dX12_findAsked_80 : decode cX12_findAsked 80 = .ok (.istore_n 2, 1) := by decide +kernel
theorem dX12_findAsked_81 : decode cX12_findAsked 81 = .ok (.iload_n 2, 1) := by decide +kernel
theorem dX12_findAsked_82 : decode cX12_findAsked 82 = .ok (.ifCond .lt 21, 3) := by decide +kernel
theorem dX12_findAsked_85 : decode cX12_findAsked 85 = .ok (.bipush 6, 2) := by decide +kernel
theorem dX12_findAsked_87 : decode cX12_findAsked 87 = .ok (.iload_n 1, 1) := by decide +kernel
theorem dX12_findAsked_88 : decode cX12_findAsked 88 = .ok (.imul, 1) := by decide +kernel
theorem dX12_findAsked_89 : decode cX12_findAsked 89 = .ok (.aload_n 0, 1) := by decide +kernel
theorem dX12_findAsked_90 : decode cX12_findAsked 90 = .ok (.getfield 80, 3) := by decide +kernel
theorem dX12_findAsked_93 : decode cX12_findAsked 93 = .ok (.iload_n 2, 1) := by decide +kernel
theorem dX12_findAsked_94 : decode cX12_findAsked 94 = .ok (.iaload, 1) := by decide +kernel
theorem dX12_findAsked_95 : decode cX12_findAsked 95 = .ok (.iadd, 1) := by decide +kernel
theorem dX12_findAsked_96 : decode cX12_findAsked 96 = .ok (.istore_n 1, 1) := by decide +kernel
theorem dX12_findAsked_97 : decode cX12_findAsked 97 = .ok (.iinc 2 (-1), 3) := by decide +kernel
theorem dX12_findAsked_100 : decode cX12_findAsked 100 = .ok (.goto (-19), 3) := by decide +kernel
theorem dX12_findAsked_103 : decode cX12_findAsked 103 = .ok (.iconst 0, 1) := by decide +kernel
theorem dX12_findAsked_104 : decode cX12_findAsked 104 = .ok (.istore_n 2, 1) := by decide +kernel
theorem dX12_findAsked_105 : decode cX12_findAsked 105 = .ok (.iload_n 2, 1) := by decide +kernel
theorem dX12_findAsked_106 : decode cX12_findAsked 106 = .ok (.iconst 4, 1) := by decide +kernel
theorem dX12_findAsked_107 : decode cX12_findAsked 107 = .ok (.if_icmp .ge 32, 3) := by decide +kernel
theorem dX12_findAsked_110 : decode cX12_findAsked 110 = .ok (.iconst 5, 1) := by decide +kernel
theorem dX12_findAsked_111 : decode cX12_findAsked 111 = .ok (.iload_n 1, 1) := by decide +kernel
theorem dX12_findAsked_112 : decode cX12_findAsked 112 = .ok (.imul, 1) := by decide +kernel
theorem dX12_findAsked_113 : decode cX12_findAsked 113 = .ok (.iload_n 2, 1) := by decide +kernel
theorem dX12_findAsked_114 : decode cX12_findAsked 114 = .ok (.aload_n 0, 1) := by decide +kernel
theorem dX12_findAsked_115 : decode cX12_findAsked 115 = .ok (.getfield 226, 3) := by decide +kernel
theorem dX12_findAsked_118 : decode cX12_findAsked 118 = .ok (.if_icmp .ge 12, 3) := by decide +kernel
theorem dX12_findAsked_121 : decode cX12_findAsked 121 = .ok (.aload_n 0, 1) := by decide +kernel
theorem dX12_findAsked_122 : decode cX12_findAsked 122 = .ok (.getfield 83, 3) := by decide +kernel
theorem dX12_findAsked_125 : decode cX12_findAsked 125 = .ok (.iload_n 2, 1) := by decide +kernel
theorem dX12_findAsked_126 : decode cX12_findAsked 126 = .ok (.iaload, 1) := by decide +kernel
theorem dX12_findAsked_127 : decode cX12_findAsked 127 = .ok (.goto 4, 3) := by decide +kernel
theorem dX12_findAsked_130 : decode cX12_findAsked 130 = .ok (.iconst 0, 1) := by decide +kernel
theorem dX12_findAsked_131 : decode cX12_findAsked 131 = .ok (.iadd, 1) := by decide +kernel
theorem dX12_findAsked_132 : decode cX12_findAsked 132 = .ok (.istore_n 1, 1) := by decide +kernel
theorem dX12_findAsked_133 : decode cX12_findAsked 133 = .ok (.iinc 2 1, 3) := by decide +kernel
theorem dX12_findAsked_136 : decode cX12_findAsked 136 = .ok (.goto (-31), 3) := by decide +kernel
theorem dX12_findAsked_139 : decode cX12_findAsked 139 = .ok (.aload_n 0, 1) := by decide +kernel
theorem dX12_findAsked_140 : decode cX12_findAsked 140 = .ok (.iload_n 1, 1) := by decide +kernel
theorem dX12_findAsked_141 : decode cX12_findAsked 141 = .ok (.invokevirtual 274, 3) := by decide +kernel
theorem dX12_findAsked_144 : decode cX12_findAsked 144 = .ok (.ireturn, 1) := by decide +kernel
theorem dX12_person_0 : decode cX12_person 0 = .ok (.aload_n 0, 1) := by decide +kernel
theorem dX12_person_1 : decode cX12_person 1 = .ok (.iconst 0, 1) := by decide +kernel
theorem dX12_person_2 : decode cX12_person 2 = .ok (.putfield 1, 3) := by decide +kernel
theorem dX12_person_5 : decode cX12_person 5 = .ok (.iload_n 1, 1) := by decide +kernel
theorem dX12_person_6 : decode cX12_person 6 = .ok (.iconst 0, 1) := by decide +kernel
theorem dX12_person_7 : decode cX12_person 7 = .ok (.iconst 3, 1) := by decide +kernel
theorem dX12_person_8 : decode cX12_person 8 = .ok (.invokestatic 277, 3) := by decide +kernel
theorem dX12_person_11 : decode cX12_person 11 = .ok (.ifCond .ne 5, 3) := by decide +kernel
theorem dX12_person_14 : decode cX12_person 14 = .ok (.iconst 0, 1) := by decide +kernel
theorem dX12_person_15 : decode cX12_person 15 = .ok (.ireturn, 1) := by decide +kernel
theorem dX12_person_16 : decode cX12_person 16 = .ok (.aload_n 0, 1) := by decide +kernel
theorem dX12_person_17 : decode cX12_person 17 = .ok (.iload_n 1, 1) := by decide +kernel
theorem dX12_person_18 : decode cX12_person 18 = .ok (.putfield 281, 3) := by decide +kernel
theorem dX12_person_21 : decode cX12_person 21 = .ok (.aload_n 0, 1) := by decide +kernel
theorem dX12_person_22 : decode cX12_person 22 = .ok (.iconst 1, 1) := by decide +kernel
theorem dX12_person_23 : decode cX12_person 23 = .ok (.putfield 152, 3) := by decide +kernel
theorem dX12_person_26 : decode cX12_person 26 = .ok (.iconst 1, 1) := by decide +kernel
theorem dX12_person_27 : decode cX12_person 27 = .ok (.ireturn, 1) := by decide +kernel
theorem dX12_isRow_0 : decode cX12_isRow 0 = .ok (.iload_n 1, 1) := by decide +kernel
theorem dX12_isRow_1 : decode cX12_isRow 1 = .ok (.ifCond .lt 15, 3) := by decide +kernel
theorem dX12_isRow_4 : decode cX12_isRow 4 = .ok (.iload_n 1, 1) := by decide +kernel
theorem dX12_isRow_5 : decode cX12_isRow 5 = .ok (.aload_n 0, 1) := by decide +kernel
theorem dX12_isRow_6 : decode cX12_isRow 6 = .ok (.getfield 223, 3) := by decide +kernel
theorem dX12_isRow_9 : decode cX12_isRow 9 = .ok (.if_icmp .ge 7, 3) := by decide +kernel
theorem dX12_isRow_12 : decode cX12_isRow 12 = .ok (.iconst 1, 1) := by decide +kernel
theorem dX12_isRow_13 : decode cX12_isRow 13 = .ok (.goto 4, 3) := by decide +kernel
theorem dX12_isRow_16 : decode cX12_isRow 16 = .ok (.iconst 0, 1) := by decide +kernel
theorem dX12_isRow_17 : decode cX12_isRow 17 = .ok (.ireturn, 1) := by decide +kernel
theorem dX12_hide_0 : decode cX12_hide 0 = .ok (.aload_n 0, 1) := by decide +kernel
theorem dX12_hide_1 : decode cX12_hide 1 = .ok (.iconst 0, 1) := by decide +kernel
theorem dX12_hide_2 : decode cX12_hide 2 = .ok (.putfield 1, 3) := by decide +kernel
theorem dX12_hide_5 : decode cX12_hide 5 = .ok (.iload_n 1, 1) := by decide +kernel
theorem dX12_hide_6 : decode cX12_hide 6 = .ok (.iconst 0, 1) := by decide +kernel
theorem dX12_hide_7 : decode cX12_hide 7 = .ok (.iconst 3, 1) := by decide +kernel
theorem dX12_hide_8 : decode cX12_hide 8 = .ok (.invokestatic 277, 3) := by decide +kernel
theorem dX12_hide_11 : decode cX12_hide 11 = .ok (.ifCond .eq 11, 3) := by decide +kernel
theorem dX12_hide_14 : decode cX12_hide 14 = .ok (.aload_n 0, 1) := by decide +kernel
theorem dX12_hide_15 : decode cX12_hide 15 = .ok (.iload_n 2, 1) := by decide +kernel
theorem dX12_hide_16 : decode cX12_hide 16 = .ok (.invokevirtual 284, 3) := by decide +kernel
theorem dX12_hide_19 : decode cX12_hide 19 = .ok (.ifCond .ne 5, 3) := by decide +kernel
theorem dX12_hide_22 : decode cX12_hide 22 = .ok (.iconst 0, 1) := by decide +kernel
theorem dX12_hide_23 : decode cX12_hide 23 = .ok (.ireturn, 1) := by decide +kernel
theorem dX12_hide_24 : decode cX12_hide 24 = .ok (.aload_n 0, 1) := by decide +kernel
theorem dX12_hide_25 : decode cX12_hide 25 = .ok (.getfield 86, 3) := by decide +kernel
theorem dX12_hide_28 : decode cX12_hide 28 = .ok (.bipush 30, 2) := by decide +kernel
theorem dX12_hide_30 : decode cX12_hide 30 = .ok (.iload_n 1, 1) := by decide +kernel
theorem dX12_hide_31 : decode cX12_hide 31 = .ok (.imul, 1) := by decide +kernel
theorem dX12_hide_32 : decode cX12_hide 32 = .ok (.iload_n 2, 1) := by decide +kernel
theorem dX12_hide_33 : decode cX12_hide 33 = .ok (.iadd, 1) := by decide +kernel
theorem dX12_hide_34 : decode cX12_hide 34 = .ok (.iload_n 3, 1) := by decide +kernel
theorem dX12_hide_35 : decode cX12_hide 35 = .ok (.bastore, 1) := by decide +kernel
theorem dX12_hide_36 : decode cX12_hide 36 = .ok (.aload_n 0, 1) := by decide +kernel
theorem dX12_hide_37 : decode cX12_hide 37 = .ok (.iconst 1, 1) := by decide +kernel
theorem dX12_hide_38 : decode cX12_hide 38 = .ok (.putfield 152, 3) := by decide +kernel
theorem dX12_hide_41 : decode cX12_hide 41 = .ok (.iconst 1, 1) := by decide +kernel
theorem dX12_hide_42 : decode cX12_hide 42 = .ok (.ireturn, 1) := by decide +kernel
theorem dX12_width_0 : decode cX12_width 0 = .ok (.aload_n 0, 1) := by decide +kernel
theorem dX12_width_1 : decode cX12_width 1 = .ok (.iconst 0, 1) := by decide +kernel
theorem dX12_width_2 : decode cX12_width 2 = .ok (.putfield 1, 3) := by decide +kernel
theorem dX12_width_5 : decode cX12_width 5 = .ok (.iload_n 1, 1) := by decide +kernel
theorem dX12_width_6 : decode cX12_width 6 = .ok (.iconst 1, 1) := by decide +kernel
theorem dX12_width_7 : decode cX12_width 7 = .ok (.iconst 5, 1) := by decide +kernel
theorem dX12_width_8 : decode cX12_width 8 = .ok (.invokestatic 277, 3) := by decide +kernel
theorem dX12_width_11 : decode cX12_width 11 = .ok (.ifCond .ne 5, 3) := by decide +kernel
theorem dX12_width_14 : decode cX12_width 14 = .ok (.iconst 0, 1) := by decide +kernel
theorem dX12_width_15 : decode cX12_width 15 = .ok (.ireturn, 1) := by decide +kernel
theorem dX12_width_16 : decode cX12_width 16 = .ok (.aload_n 0, 1) := by decide +kernel
theorem dX12_width_17 : decode cX12_width 17 = .ok (.iload_n 1, 1) := by decide +kernel
theorem dX12_width_18 : decode cX12_width 18 = .ok (.putfield 149, 3) := by decide +kernel
theorem dX12_width_21 : decode cX12_width 21 = .ok (.aload_n 0, 1) := by decide +kernel
theorem dX12_width_22 : decode cX12_width 22 = .ok (.iconst 1, 1) := by decide +kernel
theorem dX12_width_23 : decode cX12_width 23 = .ok (.putfield 152, 3) := by decide +kernel
theorem dX12_width_26 : decode cX12_width 26 = .ok (.iconst 1, 1) := by decide +kernel
theorem dX12_width_27 : decode cX12_width 27 = .ok (.ireturn, 1) := by decide +kernel
theorem dX12_isSeen_0 : decode cX12_isSeen 0 = .ok (.aload_n 0, 1) := by decide +kernel
theorem dX12_isSeen_1 : decode cX12_isSeen 1 = .ok (.iload_n 1, 1) := by decide +kernel
theorem dX12_isSeen_2 : decode cX12_isSeen 2 = .ok (.invokevirtual 284, 3) := by decide +kernel
theorem dX12_isSeen_5 : decode cX12_isSeen 5 = .ok (.ifCond .eq 24, 3) := by decide +kernel
theorem dX12_isSeen_8 : decode cX12_isSeen 8 = .ok (.aload_n 0, 1) := by decide +kernel
theorem dX12_isSeen_9 : decode cX12_isSeen 9 = .ok (.getfield 86, 3) := by decide +kernel
theorem dX12_isSeen_12 : decode cX12_isSeen 12 = .ok (.bipush 30, 2) := by decide +kernel
theorem dX12_isSeen_14 : decode cX12_isSeen 14 = .ok (.aload_n 0, 1) := by decide +kernel
theorem dX12_isSeen_15 : decode cX12_isSeen 15 = .ok (.getfield 281, 3) := by decide +kernel
theorem dX12_isSeen_18 : decode cX12_isSeen 18 = .ok (.imul, 1) := by decide +kernel
theorem dX12_isSeen_19 : decode cX12_isSeen 19 = .ok (.iload_n 1, 1) := by decide +kernel
theorem dX12_isSeen_20 : decode cX12_isSeen 20 = .ok (.iadd, 1) := by decide +kernel
theorem dX12_isSeen_21 : decode cX12_isSeen 21 = .ok (.baload, 1) := by decide +kernel
theorem dX12_isSeen_22 : decode cX12_isSeen 22 = .ok (.ifCond .ne 7, 3) := by decide +kernel
theorem dX12_isSeen_25 : decode cX12_isSeen 25 = .ok (.iconst 1, 1) := by decide +kernel
theorem dX12_isSeen_26 : decode cX12_isSeen 26 = .ok (.goto 4, 3) := by decide +kernel
theorem dX12_isSeen_29 : decode cX12_isSeen 29 = .ok (.iconst 0, 1) := by decide +kernel
theorem dX12_isSeen_30 : decode cX12_isSeen 30 = .ok (.ireturn, 1) := by decide +kernel
theorem dX12_row_0 : decode cX12_row 0 = .ok (.aload_n 0, 1) := by decide +kernel
theorem dX12_row_1 : decode cX12_row 1 = .ok (.aload_n 0, 1) := by decide +kernel
theorem dX12_row_2 : decode cX12_row 2 = .ok (.iload_n 1, 1) := by decide +kernel
theorem dX12_row_3 : decode cX12_row 3 = .ok (.invokevirtual 284, 3) := by decide +kernel
theorem dX12_row_6 : decode cX12_row 6 = .ok (.ifCond .eq 16, 3) := by decide +kernel
theorem dX12_row_9 : decode cX12_row 9 = .ok (.iload_n 2, 1) := by decide +kernel
theorem dX12_row_10 : decode cX12_row 10 = .ok (.iconst 0, 1) := by decide +kernel
theorem dX12_row_11 : decode cX12_row 11 = .ok (.iconst 2, 1) := by decide +kernel
theorem dX12_row_12 : decode cX12_row 12 = .ok (.invokestatic 277, 3) := by decide +kernel
theorem dX12_row_15 : decode cX12_row 15 = .ok (.ifCond .eq 7, 3) := by decide +kernel
theorem dX12_row_18 : decode cX12_row 18 = .ok (.iconst 0, 1) := by decide +kernel
theorem dX12_row_19 : decode cX12_row 19 = .ok (.goto 4, 3) := by decide +kernel
theorem dX12_row_22 : decode cX12_row 22 = .ok (.iconst 1, 1) := by decide +kernel
theorem dX12_row_23 : decode cX12_row 23 = .ok (.putfield 1, 3) := by decide +kernel
theorem dX12_row_26 : decode cX12_row 26 = .ok (.aload_n 0, 1) := by decide +kernel
theorem dX12_row_27 : decode cX12_row 27 = .ok (.getfield 1, 3) := by decide +kernel
theorem dX12_row_30 : decode cX12_row 30 = .ok (.ifCond .le 5, 3) := by decide +kernel
theorem dX12_row_33 : decode cX12_row 33 = .ok (.iconst 0, 1) := by decide +kernel
theorem dX12_row_34 : decode cX12_row 34 = .ok (.ireturn, 1) := by decide +kernel
theorem dX12_row_35 : decode cX12_row 35 = .ok (.iload_n 2, 1) := by decide +kernel
theorem dX12_row_36 : decode cX12_row 36 = .ok (.iconst 1, 1) := by decide +kernel
theorem dX12_row_37 : decode cX12_row 37 = .ok (.if_icmp .eq 30, 3) := by decide +kernel
theorem dX12_row_40 : decode cX12_row 40 = .ok (.iload_n 2, 1) := by decide +kernel
theorem dX12_row_41 : decode cX12_row 41 = .ok (.ifCond .ne 12, 3) := by decide +kernel
theorem dX12_row_44 : decode cX12_row 44 = .ok (.aload_n 0, 1) := by decide +kernel
theorem dX12_row_45 : decode cX12_row 45 = .ok (.getfield 68, 3) := by decide +kernel
theorem dX12_row_48 : decode cX12_row 48 = .ok (.iload_n 1, 1) := by decide +kernel
theorem dX12_row_49 : decode cX12_row 49 = .ok (.iaload, 1) := by decide +kernel
theorem dX12_row_50 : decode cX12_row 50 = .ok (.goto 16, 3) := by decide +kernel
theorem dX12_row_53 : decode cX12_row 53 = .ok (.aload_n 0, 1) := by decide +kernel
theorem dX12_row_54 : decode cX12_row 54 = .ok (.iload_n 1, 1) := by decide +kernel
theorem dX12_row_55 : decode cX12_row 55 = .ok (.invokevirtual 287, 3) := by decide +kernel
theorem dX12_row_58 : decode cX12_row 58 = .ok (.ifCond .eq 7, 3) := by decide +kernel
theorem dX12_row_61 : decode cX12_row 61 = .ok (.iconst 1, 1) := by decide +kernel
theorem dX12_row_62 : decode cX12_row 62 = .ok (.goto 4, 3) := by decide +kernel
theorem dX12_row_65 : decode cX12_row 65 = .ok (.iconst 0, 1) := by decide +kernel
theorem dX12_row_66 : decode cX12_row 66 = .ok (.ireturn, 1) := by decide +kernel
theorem dX12_row_67 : decode cX12_row 67 = .ok (.iconst 0, 1) := by decide +kernel
theorem dX12_row_68 : decode cX12_row 68 = .ok (.istore_n 3, 1) := by decide +kernel
theorem dX12_row_69 : decode cX12_row 69 = .ok (.iconst 0, 1) := by decide +kernel
theorem dX12_row_70 : decode cX12_row 70 = .ok (.istore 4, 2) := by decide +kernel
theorem dX12_row_72 : decode cX12_row 72 = .ok (.iload 4, 2) := by decide +kernel
theorem dX12_row_74 : decode cX12_row 74 = .ok (.iload_n 1, 1) := by decide +kernel
theorem dX12_row_75 : decode cX12_row 75 = .ok (.if_icmp .ge 33, 3) := by decide +kernel
theorem dX12_row_78 : decode cX12_row 78 = .ok (.iload_n 3, 1) := by decide +kernel
theorem dX12_row_79 : decode cX12_row 79 = .ok (.aload_n 0, 1) := by decide +kernel
theorem dX12_row_80 : decode cX12_row 80 = .ok (.getfield 68, 3) := by decide +kernel
theorem dX12_row_83 : decode cX12_row 83 = .ok (.iload 4, 2) := by decide +kernel
theorem dX12_row_85 : decode cX12_row 85 = .ok (.iaload, 1) := by decide +kernel
theorem dX12_row_86 : decode cX12_row 86 = .ok (.aload_n 0, 1) := by decide +kernel
theorem dX12_row_87 : decode cX12_row 87 = .ok (.getfield 68, 3) := by decide +kernel
theorem dX12_row_90 : decode cX12_row 90 = .ok (.iload_n 1, 1) := by decide +kernel
theorem dX12_row_91 : decode cX12_row 91 = .ok (.iaload, 1) := by decide +kernel
theorem dX12_row_92 : decode cX12_row 92 = .ok (.if_icmp .ne 7, 3) := by decide +kernel
theorem dX12_row_95 : decode cX12_row 95 = .ok (.iconst 1, 1) := by decide +kernel
theorem dX12_row_96 : decode cX12_row 96 = .ok (.goto 4, 3) := by decide +kernel
theorem dX12_row_99 : decode cX12_row 99 = .ok (.iconst 0, 1) := by decide +kernel
theorem dX12_row_100 : decode cX12_row 100 = .ok (.iadd, 1) := by decide +kernel
theorem dX12_row_101 : decode cX12_row 101 = .ok (.istore_n 3, 1) := by decide +kernel
theorem dX12_row_102 : decode cX12_row 102 = .ok (.iinc 4 1, 3) := by decide +kernel
theorem dX12_row_105 : decode cX12_row 105 = .ok (.goto (-33), 3) := by decide +kernel
theorem dX12_row_108 : decode cX12_row 108 = .ok (.iload_n 3, 1) := by decide +kernel
theorem dX12_row_109 : decode cX12_row 109 = .ok (.ireturn, 1) := by decide +kernel
theorem dX12_kindOf_0 : decode cX12_kindOf 0 = .ok (.aload_n 0, 1) := by decide +kernel
theorem dX12_kindOf_1 : decode cX12_kindOf 1 = .ok (.getfield 65, 3) := by decide +kernel
theorem dX12_kindOf_4 : decode cX12_kindOf 4 = .ok (.iconst 4, 1) := by decide +kernel
theorem dX12_kindOf_5 : decode cX12_kindOf 5 = .ok (.aload_n 0, 1) := by decide +kernel
theorem dX12_kindOf_6 : decode cX12_kindOf 6 = .ok (.getfield 68, 3) := by decide +kernel
theorem dX12_kindOf_9 : decode cX12_kindOf 9 = .ok (.iload_n 1, 1) := by decide +kernel
theorem dX12_kindOf_10 : decode cX12_kindOf 10 = .ok (.iaload, 1) := by decide +kernel
theorem dX12_kindOf_11 : decode cX12_kindOf 11 = .ok (.imul, 1) := by decide +kernel
theorem dX12_kindOf_12 : decode cX12_kindOf 12 = .ok (.iload_n 2, 1) := by decide +kernel
theorem dX12_kindOf_13 : decode cX12_kindOf 13 = .ok (.iadd, 1) := by decide +kernel
theorem dX12_kindOf_14 : decode cX12_kindOf 14 = .ok (.iaload, 1) := by decide +kernel
theorem dX12_kindOf_15 : decode cX12_kindOf 15 = .ok (.ireturn, 1) := by decide +kernel
theorem dX12_isText_0 : decode cX12_isText 0 = .ok (.iload_n 2, 1) := by decide +kernel
theorem dX12_isText_1 : decode cX12_isText 1 = .ok (.aload_n 0, 1) := by decide +kernel
theorem dX12_isText_2 : decode cX12_isText 2 = .ok (.getfield 59, 3) := by decide +kernel
theorem dX12_isText_5 : decode cX12_isText 5 = .ok (.aload_n 0, 1) := by decide +kernel
theorem dX12_isText_6 : decode cX12_isText 6 = .ok (.getfield 68, 3) := by decide +kernel
theorem dX12_isText_9 : decode cX12_isText 9 = .ok (.iload_n 1, 1) := by decide +kernel
theorem dX12_isText_10 : decode cX12_isText 10 = .ok (.iaload, 1) := by decide +kernel
theorem dX12_isText_11 : decode cX12_isText 11 = .ok (.iaload, 1) := by decide +kernel
theorem dX12_isText_12 : decode cX12_isText 12 = .ok (.if_icmp .ge 17, 3) := by decide +kernel
theorem dX12_isText_15 : decode cX12_isText 15 = .ok (.aload_n 0, 1) := by decide +kernel
theorem dX12_isText_16 : decode cX12_isText 16 = .ok (.iload_n 1, 1) := by decide +kernel
theorem dX12_isText_17 : decode cX12_isText 17 = .ok (.iload_n 2, 1) := by decide +kernel
theorem dX12_isText_18 : decode cX12_isText 18 = .ok (.invokevirtual 290, 3) := by decide +kernel
theorem dX12_isText_21 : decode cX12_isText 21 = .ok (.iconst 5, 1) := by decide +kernel
theorem dX12_isText_22 : decode cX12_isText 22 = .ok (.if_icmp .ne 7, 3) := by decide +kernel
theorem dX12_isText_25 : decode cX12_isText 25 = .ok (.iconst 1, 1) := by decide +kernel
theorem dX12_isText_26 : decode cX12_isText 26 = .ok (.goto 4, 3) := by decide +kernel
theorem dX12_isText_29 : decode cX12_isText 29 = .ok (.iconst 0, 1) := by decide +kernel
theorem dX12_isText_30 : decode cX12_isText 30 = .ok (.ireturn, 1) := by decide +kernel
theorem dX12_cell_0 : decode cX12_cell 0 = .ok (.aload_n 0, 1) := by decide +kernel
theorem dX12_cell_1 : decode cX12_cell 1 = .ok (.iconst 0, 1) := by decide +kernel
theorem dX12_cell_2 : decode cX12_cell 2 = .ok (.putfield 1, 3) := by decide +kernel
theorem dX12_cell_5 : decode cX12_cell 5 = .ok (.aload_n 0, 1) := by decide +kernel
theorem dX12_cell_6 : decode cX12_cell 6 = .ok (.iload_n 1, 1) := by decide +kernel
theorem dX12_cell_7 : decode cX12_cell 7 = .ok (.invokevirtual 287, 3) := by decide +kernel
theorem dX12_cell_10 : decode cX12_cell 10 = .ok (.ifCond .eq 24, 3) := by decide +kernel
theorem dX12_cell_13 : decode cX12_cell 13 = .ok (.iload_n 2, 1) := by decide +kernel
theorem dX12_cell_14 : decode cX12_cell 14 = .ok (.iconst 0, 1) := by decide +kernel
theorem dX12_cell_15 : decode cX12_cell 15 = .ok (.aload_n 0, 1) := by decide +kernel
theorem dX12_cell_16 : decode cX12_cell 16 = .ok (.getfield 59, 3) := by decide +kernel
theorem dX12_cell_19 : decode cX12_cell 19 = .ok (.aload_n 0, 1) := by decide +kernel
theorem dX12_cell_20 : decode cX12_cell 20 = .ok (.getfield 68, 3) := by decide +kernel
theorem dX12_cell_23 : decode cX12_cell 23 = .ok (.iload_n 1, 1) := by decide +kernel
theorem dX12_cell_24 : decode cX12_cell 24 = .ok (.iaload, 1) := by decide +kernel
theorem dX12_cell_25 : decode cX12_cell 25 = .ok (.iaload, 1) := by decide +kernel
theorem dX12_cell_26 : decode cX12_cell 26 = .ok (.iconst 1, 1) := by decide +kernel
theorem dX12_cell_27 : decode cX12_cell 27 = .ok (.isub, 1) := by decide +kernel
theorem dX12_cell_28 : decode cX12_cell 28 = .ok (.invokestatic 277, 3) := by decide +kernel
theorem dX12_cell_31 : decode cX12_cell 31 = .ok (.ifCond .ne 7, 3) := by decide +kernel
theorem dX12_cell_34 : decode cX12_cell 34 = .ok (.ldc2_w 245, 3) := by decide +kernel
theorem dX12_cell_37 : decode cX12_cell 37 = .ok (.lreturn, 1) := by decide +kernel
theorem dX12_cell_38 : decode cX12_cell 38 = .ok (.aload_n 0, 1) := by decide +kernel
theorem dX12_cell_39 : decode cX12_cell 39 = .ok (.getfield 71, 3) := by decide +kernel
theorem dX12_cell_42 : decode cX12_cell 42 = .ok (.iconst 4, 1) := by decide +kernel
theorem dX12_cell_43 : decode cX12_cell 43 = .ok (.iload_n 1, 1) := by decide +kernel
theorem dX12_cell_44 : decode cX12_cell 44 = .ok (.imul, 1) := by decide +kernel
theorem dX12_cell_45 : decode cX12_cell 45 = .ok (.iload_n 2, 1) := by decide +kernel
theorem dX12_cell_46 : decode cX12_cell 46 = .ok (.iadd, 1) := by decide +kernel
theorem dX12_cell_47 : decode cX12_cell 47 = .ok (.laload, 1) := by decide +kernel
theorem dX12_cell_48 : decode cX12_cell 48 = .ok (.lstore_n 3, 1) := by decide +kernel
theorem dX12_cell_49 : decode cX12_cell 49 = .ok (.aload_n 0, 1) := by decide +kernel
theorem dX12_cell_50 : decode cX12_cell 50 = .ok (.iload_n 1, 1) := by decide +kernel
theorem dX12_cell_51 : decode cX12_cell 51 = .ok (.iload_n 2, 1) := by decide +kernel
theorem dX12_cell_52 : decode cX12_cell 52 = .ok (.invokevirtual 290, 3) := by decide +kernel
theorem dX12_cell_55 : decode cX12_cell 55 = .ok (.iconst 5, 1) := by decide +kernel
theorem dX12_cell_56 : decode cX12_cell 56 = .ok (.if_icmp .ge 18, 3) := by decide +kernel
theorem dX12_cell_59 : decode cX12_cell 59 = .ok (.aload_n 0, 1) := by decide +kernel
theorem dX12_cell_60 : decode cX12_cell 60 = .ok (.lload_n 3, 1) := by decide +kernel
theorem dX12_cell_61 : decode cX12_cell 61 = .ok (.l2i, 1) := by decide +kernel
theorem dX12_cell_62 : decode cX12_cell 62 = .ok (.invokevirtual 287, 3) := by decide +kernel
theorem dX12_cell_65 : decode cX12_cell 65 = .ok (.ifCond .ne 9, 3) := by decide +kernel
theorem dX12_cell_68 : decode cX12_cell 68 = .ok (.ldc2_w 245, 3) := by decide +kernel
theorem dX12_cell_71 : decode cX12_cell 71 = .ok (.goto 4, 3) := by decide +kernel
theorem dX12_cell_74 : decode cX12_cell 74 = .ok (.lload_n 3, 1) := by decide +kernel
theorem dX12_cell_75 : decode cX12_cell 75 = .ok (.lreturn, 1) := by decide +kernel
theorem dX12_lettersOf_0 : decode cX12_lettersOf 0 = .ok (.iconst 0, 1) := by decide +kernel
theorem dX12_lettersOf_1 : decode cX12_lettersOf 1 = .ok (.istore_n 2, 1) := by decide +kernel
theorem dX12_lettersOf_2 : decode cX12_lettersOf 2 = .ok (.lload_n 0, 1) := by decide +kernel
theorem dX12_lettersOf_3 : decode cX12_lettersOf 3 = .ok (.lstore_n 3, 1) := by decide +kernel
theorem dX12_lettersOf_4 : decode cX12_lettersOf 4 = .ok (.lload_n 3, 1) := by decide +kernel
theorem dX12_lettersOf_5 : decode cX12_lettersOf 5 = .ok (.lconst 0, 1) := by decide +kernel
theorem dX12_lettersOf_6 : decode cX12_lettersOf 6 = .ok (.lcmp, 1) := by decide +kernel
theorem dX12_lettersOf_7 : decode cX12_lettersOf 7 = .ok (.ifCond .le 15, 3) := by decide +kernel
theorem dX12_lettersOf_10 : decode cX12_lettersOf 10 = .ok (.iinc 2 1, 3) := by decide +kernel
theorem dX12_lettersOf_13 : decode cX12_lettersOf 13 = .ok (.lload_n 3, 1) := by decide +kernel
theorem dX12_lettersOf_14 : decode cX12_lettersOf 14 = .ok (.ldc2_w 163, 3) := by decide +kernel
theorem dX12_lettersOf_17 : decode cX12_lettersOf 17 = .ok (.ldiv, 1) := by decide +kernel
theorem dX12_lettersOf_18 : decode cX12_lettersOf 18 = .ok (.lstore_n 3, 1) := by decide +kernel
theorem dX12_lettersOf_19 : decode cX12_lettersOf 19 = .ok (.goto (-15), 3) := by decide +kernel
theorem dX12_lettersOf_22 : decode cX12_lettersOf 22 = .ok (.iload_n 2, 1) := by decide +kernel
theorem dX12_lettersOf_23 : decode cX12_lettersOf 23 = .ok (.ireturn, 1) := by decide +kernel
theorem dX12_letter_0 : decode cX12_letter 0 = .ok (.lload_n 0, 1) := by decide +kernel
theorem dX12_letter_1 : decode cX12_letter 1 = .ok (.lstore_n 3, 1) := by decide +kernel
theorem dX12_letter_2 : decode cX12_letter 2 = .ok (.iconst 0, 1) := by decide +kernel
theorem dX12_letter_3 : decode cX12_letter 3 = .ok (.istore 5, 2) := by decide +kernel
theorem dX12_letter_5 : decode cX12_letter 5 = .ok (.iload 5, 2) := by decide +kernel
theorem dX12_letter_7 : decode cX12_letter 7 = .ok (.iload_n 2, 1) := by decide +kernel
theorem dX12_letter_8 : decode cX12_letter 8 = .ok (.if_icmp .ge 15, 3) := by decide +kernel
theorem dX12_letter_11 : decode cX12_letter 11 = .ok (.lload_n 3, 1) := by decide +kernel
theorem dX12_letter_12 : decode cX12_letter 12 = .ok (.ldc2_w 163, 3) := by decide +kernel
theorem dX12_letter_15 : decode cX12_letter 15 = .ok (.ldiv, 1) := by decide +kernel
theorem dX12_letter_16 : decode cX12_letter 16 = .ok (.lstore_n 3, 1) := by decide +kernel
theorem dX12_letter_17 : decode cX12_letter 17 = .ok (.iinc 5 1, 3) := by decide +kernel
theorem dX12_letter_20 : decode cX12_letter 20 = .ok (.goto (-15), 3) := by decide +kernel
theorem dX12_letter_23 : decode cX12_letter 23 = .ok (.lload_n 3, 1) := by decide +kernel
theorem dX12_letter_24 : decode cX12_letter 24 = .ok (.ldc2_w 163, 3) := by decide +kernel
theorem dX12_letter_27 : decode cX12_letter 27 = .ok (.lrem, 1) := by decide +kernel
theorem dX12_letter_28 : decode cX12_letter 28 = .ok (.lreturn, 1) := by decide +kernel
theorem dX12_power_0 : decode cX12_power 0 = .ok (.lconst 1, 1) := by decide +kernel
theorem dX12_power_1 : decode cX12_power 1 = .ok (.lstore_n 1, 1) := by decide +kernel
theorem dX12_power_2 : decode cX12_power 2 = .ok (.iconst 0, 1) := by decide +kernel
theorem dX12_power_3 : decode cX12_power 3 = .ok (.istore_n 3, 1) := by decide +kernel
theorem dX12_power_4 : decode cX12_power 4 = .ok (.iload_n 3, 1) := by decide +kernel
theorem dX12_power_5 : decode cX12_power 5 = .ok (.iload_n 0, 1) := by decide +kernel
theorem dX12_power_6 : decode cX12_power 6 = .ok (.if_icmp .ge 15, 3) := by decide +kernel
theorem dX12_power_9 : decode cX12_power 9 = .ok (.lload_n 1, 1) := by decide +kernel
theorem dX12_power_10 : decode cX12_power 10 = .ok (.ldc2_w 163, 3) := by decide +kernel
theorem dX12_power_13 : decode cX12_power 13 = .ok (.lmul, 1) := by decide +kernel
theorem dX12_power_14 : decode cX12_power 14 = .ok (.lstore_n 1, 1) := by decide +kernel
theorem dX12_power_15 : decode cX12_power 15 = .ok (.iinc 3 1, 3) := by decide +kernel
theorem dX12_power_18 : decode cX12_power 18 = .ok (.goto (-14), 3) := by decide +kernel
theorem dX12_power_21 : decode cX12_power 21 = .ok (.lload_n 1, 1) := by decide +kernel
theorem dX12_power_22 : decode cX12_power 22 = .ok (.lreturn, 1) := by decide +kernel
theorem dX12_without_0 : decode cX12_without 0 = .ok (.iload_n 2, 1) := by decide +kernel
theorem dX12_without_1 : decode cX12_without 1 = .ok (.invokestatic 293, 3) := by decide +kernel
theorem dX12_without_4 : decode cX12_without 4 = .ok (.lstore_n 3, 1) := by decide +kernel
theorem dX12_without_5 : decode cX12_without 5 = .ok (.lload_n 0, 1) := by decide +kernel
theorem dX12_without_6 : decode cX12_without 6 = .ok (.ldc2_w 163, 3) := by decide +kernel
theorem dX12_without_9 : decode cX12_without 9 = .ok (.lload_n 3, 1) := by decide +kernel
theorem dX12_without_10 : decode cX12_without 10 = .ok (.lmul, 1) := by decide +kernel
theorem dX12_without_11 : decode cX12_without 11 = .ok (.ldiv, 1) := by decide +kernel
theorem dX12_without_12 : decode cX12_without 12 = .ok (.lload_n 3, 1) := by decide +kernel
theorem dX12_without_13 : decode cX12_without 13 = .ok (.lmul, 1) := by decide +kernel
theorem dX12_without_14 : decode cX12_without 14 = .ok (.lload_n 0, 1) := by decide +kernel
theorem dX12_without_15 : decode cX12_without 15 = .ok (.lload_n 3, 1) := by decide +kernel
theorem dX12_without_16 : decode cX12_without 16 = .ok (.lrem, 1) := by decide +kernel
theorem dX12_without_17 : decode cX12_without 17 = .ok (.ladd, 1) := by decide +kernel
theorem dX12_without_18 : decode cX12_without 18 = .ok (.lreturn, 1) := by decide +kernel
theorem dX12_isNear_0 : decode cX12_isNear 0 = .ok (.lload_n 0, 1) := by decide +kernel
theorem dX12_isNear_1 : decode cX12_isNear 1 = .ok (.invokestatic 297, 3) := by decide +kernel
theorem dX12_isNear_4 : decode cX12_isNear 4 = .ok (.istore 4, 2) := by decide +kernel
theorem dX12_isNear_6 : decode cX12_isNear 6 = .ok (.lload_n 2, 1) := by decide +kernel
theorem dX12_isNear_7 : decode cX12_isNear 7 = .ok (.invokestatic 297, 3) := by decide +kernel
theorem dX12_isNear_10 : decode cX12_isNear 10 = .ok (.istore 5, 2) := by decide +kernel
theorem dX12_isNear_12 : decode cX12_isNear 12 = .ok (.iconst 0, 1) := by decide +kernel
theorem dX12_isNear_13 : decode cX12_isNear 13 = .ok (.istore 6, 2) := by decide +kernel
theorem dX12_isNear_15 : decode cX12_isNear 15 = .ok (.iload 4, 2) := by decide +kernel
theorem dX12_isNear_17 : decode cX12_isNear 17 = .ok (.iload 5, 2) := by decide +kernel
theorem dX12_isNear_19 : decode cX12_isNear 19 = .ok (.if_icmp .ne 61, 3) := by decide +kernel
theorem dX12_isNear_22 : decode cX12_isNear 22 = .ok (.iconst 0, 1) := by decide +kernel
theorem dX12_isNear_23 : decode cX12_isNear 23 = .ok (.istore 7, 2) := by decide +kernel
theorem dX12_isNear_25 : decode cX12_isNear 25 = .ok (.iconst 0, 1) := by decide +kernel
theorem dX12_isNear_26 : decode cX12_isNear 26 = .ok (.istore 8, 2) := by decide +kernel
theorem dX12_isNear_28 : decode cX12_isNear 28 = .ok (.iload 8, 2) := by decide +kernel
theorem dX12_isNear_30 : decode cX12_isNear 30 = .ok (.iload 4, 2) := by decide +kernel
theorem dX12_isNear_32 : decode cX12_isNear 32 = .ok (.if_icmp .ge 35, 3) := by decide +kernel
theorem dX12_isNear_35 : decode cX12_isNear 35 = .ok (.iload 7, 2) := by decide +kernel
theorem dX12_isNear_37 : decode cX12_isNear 37 = .ok (.lload_n 0, 1) := by decide +kernel
theorem dX12_isNear_38 : decode cX12_isNear 38 = .ok (.iload 8, 2) := by decide +kernel
theorem dX12_isNear_40 : decode cX12_isNear 40 = .ok (.invokestatic 301, 3) := by decide +kernel
theorem dX12_isNear_43 : decode cX12_isNear 43 = .ok (.lload_n 2, 1) := by decide +kernel
theorem dX12_isNear_44 : decode cX12_isNear 44 = .ok (.iload 8, 2) := by decide +kernel
theorem dX12_isNear_46 : decode cX12_isNear 46 = .ok (.invokestatic 301, 3) := by decide +kernel
theorem dX12_isNear_49 : decode cX12_isNear 49 = .ok (.lcmp, 1) := by decide +kernel
theorem dX12_isNear_50 : decode cX12_isNear 50 = .ok (.ifCond .ne 7, 3) := by decide +kernel
theorem dX12_isNear_53 : decode cX12_isNear 53 = .ok (.iconst 0, 1) := by decide +kernel
theorem dX12_isNear_54 : decode cX12_isNear 54 = .ok (.goto 4, 3) := by decide +kernel
theorem dX12_isNear_57 : decode cX12_isNear 57 = .ok (.iconst 1, 1) := by decide +kernel
theorem dX12_isNear_58 : decode cX12_isNear 58 = .ok (.iadd, 1) := by decide +kernel
theorem dX12_isNear_59 : decode cX12_isNear 59 = .ok (.istore 7, 2) := by decide +kernel
theorem dX12_isNear_61 : decode cX12_isNear 61 = .ok (.iinc 8 1, 3) := by decide +kernel
theorem dX12_isNear_64 : decode cX12_isNear 64 = .ok (.goto (-36), 3) := by decide +kernel
theorem dX12_isNear_67 : decode cX12_isNear 67 = .ok (.iload 7, 2) := by decide +kernel
theorem dX12_isNear_69 : decode cX12_isNear 69 = .ok (.iconst 1, 1) := by decide +kernel
theorem dX12_isNear_70 : decode cX12_isNear 70 = .ok (.if_icmp .ne 7, 3) := by decide +kernel
theorem dX12_isNear_73 : decode cX12_isNear 73 = .ok (.iconst 1, 1) := by decide +kernel
theorem dX12_isNear_74 : decode cX12_isNear 74 = .ok (.goto 4, 3) := by decide +kernel
theorem dX12_isNear_77 : decode cX12_isNear 77 = .ok (.iconst 0, 1) := by decide +kernel
theorem dX12_isNear_78 : decode cX12_isNear 78 = .ok (.istore 6, 2) := by decide +kernel
theorem dX12_isNear_80 : decode cX12_isNear 80 = .ok (.iconst 0, 1) := by decide +kernel
theorem dX12_isNear_81 : decode cX12_isNear 81 = .ok (.istore 7, 2) := by decide +kernel
theorem dX12_isNear_83 : decode cX12_isNear 83 = .ok (.iload 7, 2) := by decide +kernel
theorem dX12_isNear_85 : decode cX12_isNear 85 = .ok (.iload 4, 2) := by decide +kernel
theorem dX12_isNear_87 : decode cX12_isNear 87 = .ok (.if_icmp .ge 41, 3) := by decide +kernel
theorem dX12_isNear_90 : decode cX12_isNear 90 = .ok (.iload 4, 2) := by decide +kernel
theorem dX12_isNear_92 : decode cX12_isNear 92 = .ok (.iload 5, 2) := by decide +kernel
theorem dX12_isNear_94 : decode cX12_isNear 94 = .ok (.iconst 1, 1) := by decide +kernel
theorem dX12_isNear_95 : decode cX12_isNear 95 = .ok (.iadd, 1) := by decide +kernel
theorem dX12_isNear_96 : decode cX12_isNear 96 = .ok (.if_icmp .ne 32, 3) := by decide +kernel
theorem dX12_isNear_99 : decode cX12_isNear 99 = .ok (.iload 6, 2) := by decide +kernel
theorem dX12_isNear_101 : decode cX12_isNear 101 = .ok (.ifCond .ne 14, 3) := by decide +kernel
theorem dX12_isNear_104 : decode cX12_isNear 104 = .ok (.lload_n 0, 1) := by decide +kernel
theorem dX12_isNear_105 : decode cX12_isNear 105 = .ok (.iload 7, 2) := by decide +kernel
theorem dX12_isNear_107 : decode cX12_isNear 107 = .ok (.invokestatic 305, 3) := by decide +kernel
theorem dX12_isNear_110 : decode cX12_isNear 110 = .ok (.lload_n 2, 1) := by decide +kernel
theorem dX12_isNear_111 : decode cX12_isNear 111 = .ok (.lcmp, 1) := by decide +kernel
theorem dX12_isNear_112 : decode cX12_isNear 112 = .ok (.ifCond .ne 7, 3) := by decide +kernel
theorem dX12_isNear_115 : decode cX12_isNear 115 = .ok (.iconst 1, 1) := by decide +kernel
theorem dX12_isNear_116 : decode cX12_isNear 116 = .ok (.goto 4, 3) := by decide +kernel
theorem dX12_isNear_119 : decode cX12_isNear 119 = .ok (.iconst 0, 1) := by decide +kernel
theorem dX12_isNear_120 : decode cX12_isNear 120 = .ok (.istore 6, 2) := by decide +kernel
theorem dX12_isNear_122 : decode cX12_isNear 122 = .ok (.iinc 7 1, 3) := by decide +kernel
theorem dX12_isNear_125 : decode cX12_isNear 125 = .ok (.goto (-42), 3) := by decide +kernel
theorem dX12_isNear_128 : decode cX12_isNear 128 = .ok (.iconst 0, 1) := by decide +kernel
theorem dX12_isNear_129 : decode cX12_isNear 129 = .ok (.istore 7, 2) := by decide +kernel
theorem dX12_isNear_131 : decode cX12_isNear 131 = .ok (.iload 7, 2) := by decide +kernel
theorem dX12_isNear_133 : decode cX12_isNear 133 = .ok (.iload 5, 2) := by decide +kernel
theorem dX12_isNear_135 : decode cX12_isNear 135 = .ok (.if_icmp .ge 41, 3) := by decide +kernel
theorem dX12_isNear_138 : decode cX12_isNear 138 = .ok (.iload 5, 2) := by decide +kernel
theorem dX12_isNear_140 : decode cX12_isNear 140 = .ok (.iload 4, 2) := by decide +kernel
theorem dX12_isNear_142 : decode cX12_isNear 142 = .ok (.iconst 1, 1) := by decide +kernel
theorem dX12_isNear_143 : decode cX12_isNear 143 = .ok (.iadd, 1) := by decide +kernel
theorem dX12_isNear_144 : decode cX12_isNear 144 = .ok (.if_icmp .ne 32, 3) := by decide +kernel
theorem dX12_isNear_147 : decode cX12_isNear 147 = .ok (.iload 6, 2) := by decide +kernel
theorem dX12_isNear_149 : decode cX12_isNear 149 = .ok (.ifCond .ne 14, 3) := by decide +kernel
theorem dX12_isNear_152 : decode cX12_isNear 152 = .ok (.lload_n 2, 1) := by decide +kernel
theorem dX12_isNear_153 : decode cX12_isNear 153 = .ok (.iload 7, 2) := by decide +kernel
theorem dX12_isNear_155 : decode cX12_isNear 155 = .ok (.invokestatic 305, 3) := by decide +kernel
theorem dX12_isNear_158 : decode cX12_isNear 158 = .ok (.lload_n 0, 1) := by decide +kernel
theorem dX12_isNear_159 : decode cX12_isNear 159 = .ok (.lcmp, 1) := by decide +kernel
theorem dX12_isNear_160 : decode cX12_isNear 160 = .ok (.ifCond .ne 7, 3) := by decide +kernel
theorem dX12_isNear_163 : decode cX12_isNear 163 = .ok (.iconst 1, 1) := by decide +kernel
theorem dX12_isNear_164 : decode cX12_isNear 164 = .ok (.goto 4, 3) := by decide +kernel
theorem dX12_isNear_167 : decode cX12_isNear 167 = .ok (.iconst 0, 1) := by decide +kernel
theorem dX12_isNear_168 : decode cX12_isNear 168 = .ok (.istore 6, 2) := by decide +kernel
theorem dX12_isNear_170 : decode cX12_isNear 170 = .ok (.iinc 7 1, 3) := by decide +kernel
theorem dX12_isNear_173 : decode cX12_isNear 173 = .ok (.goto (-42), 3) := by decide +kernel
theorem dX12_isNear_176 : decode cX12_isNear 176 = .ok (.iload 6, 2) := by decide +kernel
theorem dX12_isNear_178 : decode cX12_isNear 178 = .ok (.ireturn, 1) := by decide +kernel
theorem dX12_hasS_0 : decode cX12_hasS 0 = .ok (.lload_n 0, 1) := by decide +kernel
theorem dX12_hasS_1 : decode cX12_hasS 1 = .ok (.ldc2_w 163, 3) := by decide +kernel
theorem dX12_hasS_4 : decode cX12_hasS 4 = .ok (.lrem, 1) := by decide +kernel
theorem dX12_hasS_5 : decode cX12_hasS 5 = .ok (.ldc2_w 308, 3) := by decide +kernel
theorem dX12_hasS_8 : decode cX12_hasS 8 = .ok (.lcmp, 1) := by decide +kernel
theorem dX12_hasS_9 : decode cX12_hasS 9 = .ok (.ifCond .ne 17, 3) := by decide +kernel
theorem dX12_hasS_12 : decode cX12_hasS 12 = .ok (.lload_n 0, 1) := by decide +kernel
theorem dX12_hasS_13 : decode cX12_hasS 13 = .ok (.ldc2_w 163, 3) := by decide +kernel
theorem dX12_hasS_16 : decode cX12_hasS 16 = .ok (.ldiv, 1) := by decide +kernel
theorem dX12_hasS_17 : decode cX12_hasS 17 = .ok (.lload_n 2, 1) := by decide +kernel
theorem dX12_hasS_18 : decode cX12_hasS 18 = .ok (.lcmp, 1) := by decide +kernel
theorem dX12_hasS_19 : decode cX12_hasS 19 = .ok (.ifCond .ne 7, 3) := by decide +kernel
theorem dX12_hasS_22 : decode cX12_hasS 22 = .ok (.iconst 1, 1) := by decide +kernel
theorem dX12_hasS_23 : decode cX12_hasS 23 = .ok (.goto 4, 3) := by decide +kernel
theorem dX12_hasS_26 : decode cX12_hasS 26 = .ok (.iconst 0, 1) := by decide +kernel
theorem dX12_hasS_27 : decode cX12_hasS 27 = .ok (.ireturn, 1) := by decide +kernel
theorem dX12_least_0 : decode cX12_least 0 = .ok (.iload_n 0, 1) := by decide +kernel
theorem dX12_least_1 : decode cX12_least 1 = .ok (.ifCond .ge 7, 3) := by decide +kernel
theorem dX12_least_4 : decode cX12_least 4 = .ok (.iload_n 1, 1) := by decide +kernel
theorem dX12_least_5 : decode cX12_least 5 = .ok (.goto 17, 3) := by decide +kernel
theorem dX12_least_8 : decode cX12_least 8 = .ok (.iload_n 1, 1) := by decide +kernel
theorem dX12_least_9 : decode cX12_least 9 = .ok (.ifCond .lt 8, 3) := by decide +kernel
theorem dX12_least_12 : decode cX12_least 12 = .ok (.iload_n 0, 1) := by decide +kernel
theorem dX12_least_13 : decode cX12_least 13 = .ok (.iload_n 1, 1) := by decide +kernel
theorem dX12_least_14 : decode cX12_least 14 = .ok (.if_icmp .ge 7, 3) := by decide +kernel
theorem dX12_least_17 : decode cX12_least 17 = .ok (.iload_n 0, 1) := by decide +kernel
theorem dX12_least_18 : decode cX12_least 18 = .ok (.goto 4, 3) := by decide +kernel
theorem dX12_least_21 : decode cX12_least 21 = .ok (.iload_n 1, 1) := by decide +kernel
theorem dX12_least_22 : decode cX12_least 22 = .ok (.ireturn, 1) := by decide +kernel
theorem dX12_priceAt_0 : decode cX12_priceAt 0 = .ok (.iconst (-1), 1) := by decide +kernel
theorem dX12_priceAt_1 : decode cX12_priceAt 1 = .ok (.istore_n 3, 1) := by decide +kernel
theorem dX12_priceAt_2 : decode cX12_priceAt 2 = .ok (.aload_n 0, 1) := by decide +kernel
theorem dX12_priceAt_3 : decode cX12_priceAt 3 = .ok (.getfield 77, 3) := by decide +kernel
theorem dX12_priceAt_6 : decode cX12_priceAt 6 = .ok (.iload_n 2, 1) := by decide +kernel
theorem dX12_priceAt_7 : decode cX12_priceAt 7 = .ok (.laload, 1) := by decide +kernel
theorem dX12_priceAt_8 : decode cX12_priceAt 8 = .ok (.lstore 4, 2) := by decide +kernel
theorem dX12_priceAt_10 : decode cX12_priceAt 10 = .ok (.aload_n 0, 1) := by decide +kernel
theorem dX12_priceAt_11 : decode cX12_priceAt 11 = .ok (.getfield 68, 3) := by decide +kernel
theorem dX12_priceAt_14 : decode cX12_priceAt 14 = .ok (.iload_n 1, 1) := by decide +kernel
theorem dX12_priceAt_15 : decode cX12_priceAt 15 = .ok (.iaload, 1) := by decide +kernel
theorem dX12_priceAt_16 : decode cX12_priceAt 16 = .ok (.istore 6, 2) := by decide +kernel
theorem dX12_priceAt_18 : decode cX12_priceAt 18 = .ok (.iconst 0, 1) := by decide +kernel
theorem dX12_priceAt_19 : decode cX12_priceAt 19 = .ok (.istore 7, 2) := by decide +kernel
theorem dX12_priceAt_21 : decode cX12_priceAt 21 = .ok (.iload 7, 2) := by decide +kernel
theorem dX12_priceAt_23 : decode cX12_priceAt 23 = .ok (.aload_n 0, 1) := by decide +kernel
theorem dX12_priceAt_24 : decode cX12_priceAt 24 = .ok (.getfield 59, 3) := by decide +kernel
theorem dX12_priceAt_27 : decode cX12_priceAt 27 = .ok (.iload 6, 2) := by decide +kernel
theorem dX12_priceAt_29 : decode cX12_priceAt 29 = .ok (.iaload, 1) := by decide +kernel
theorem dX12_priceAt_30 : decode cX12_priceAt 30 = .ok (.if_icmp .ge 203, 3) := by decide +kernel
theorem dX12_priceAt_33 : decode cX12_priceAt 33 = .ok (.aload_n 0, 1) := by decide +kernel
theorem dX12_priceAt_34 : decode cX12_priceAt 34 = .ok (.getfield 71, 3) := by decide +kernel
theorem dX12_priceAt_37 : decode cX12_priceAt 37 = .ok (.iconst 4, 1) := by decide +kernel
theorem dX12_priceAt_38 : decode cX12_priceAt 38 = .ok (.iload_n 1, 1) := by decide +kernel
theorem dX12_priceAt_39 : decode cX12_priceAt 39 = .ok (.imul, 1) := by decide +kernel
theorem dX12_priceAt_40 : decode cX12_priceAt 40 = .ok (.iload 7, 2) := by decide +kernel
theorem dX12_priceAt_42 : decode cX12_priceAt 42 = .ok (.iadd, 1) := by decide +kernel
theorem dX12_priceAt_43 : decode cX12_priceAt 43 = .ok (.laload, 1) := by decide +kernel
theorem dX12_priceAt_44 : decode cX12_priceAt 44 = .ok (.lstore 8, 2) := by decide +kernel
theorem dX12_priceAt_46 : decode cX12_priceAt 46 = .ok (.aload_n 0, 1) := by decide +kernel
theorem dX12_priceAt_47 : decode cX12_priceAt 47 = .ok (.iload_n 1, 1) := by decide +kernel
theorem dX12_priceAt_48 : decode cX12_priceAt 48 = .ok (.iload 7, 2) := by decide +kernel
theorem dX12_priceAt_50 : decode cX12_priceAt 50 = .ok (.invokevirtual 290, 3) := by decide +kernel
theorem dX12_priceAt_53 : decode cX12_priceAt 53 = .ok (.istore 10, 2) := by decide +kernel
theorem dX12_priceAt_55 : decode cX12_priceAt 55 = .ok (.aload_n 0, 1) := by decide +kernel
theorem dX12_priceAt_56 : decode cX12_priceAt 56 = .ok (.getfield 74, 3) := by decide +kernel
theorem dX12_priceAt_59 : decode cX12_priceAt 59 = .ok (.iload_n 2, 1) := by decide +kernel
theorem dX12_priceAt_60 : decode cX12_priceAt 60 = .ok (.iaload, 1) := by decide +kernel
theorem dX12_priceAt_61 : decode cX12_priceAt 61 = .ok (.iconst 2, 1) := by decide +kernel
theorem dX12_priceAt_62 : decode cX12_priceAt 62 = .ok (.if_icmp .eq 13, 3) := by decide +kernel
theorem dX12_priceAt_65 : decode cX12_priceAt 65 = .ok (.aload_n 0, 1) := by decide +kernel
theorem dX12_priceAt_66 : decode cX12_priceAt 66 = .ok (.getfield 74, 3) := by decide +kernel
theorem dX12_priceAt_69 : decode cX12_priceAt 69 = .ok (.iload_n 2, 1) := by decide +kernel
theorem dX12_priceAt_70 : decode cX12_priceAt 70 = .ok (.iaload, 1) := by decide +kernel
theorem dX12_priceAt_71 : decode cX12_priceAt 71 = .ok (.iconst 3, 1) := by decide +kernel
theorem dX12_priceAt_72 : decode cX12_priceAt 72 = .ok (.if_icmp .ne 60, 3) := by decide +kernel
theorem dX12_priceAt_75 : decode cX12_priceAt 75 = .ok (.iload 10, 2) := by decide +kernel
theorem dX12_priceAt_77 : decode cX12_priceAt 77 = .ok (.bipush 6, 2) := by decide +kernel
theorem dX12_priceAt_79 : decode cX12_priceAt 79 = .ok (.if_icmp .ne 36, 3) := by decide +kernel
theorem dX12_priceAt_82 : decode cX12_priceAt 82 = .ok (.aload_n 0, 1) := by decide +kernel
theorem dX12_priceAt_83 : decode cX12_priceAt 83 = .ok (.getfield 74, 3) := by decide +kernel
theorem dX12_priceAt_86 : decode cX12_priceAt 86 = .ok (.iload_n 2, 1) := by decide +kernel
theorem dX12_priceAt_87 : decode cX12_priceAt 87 = .ok (.iaload, 1) := by decide +kernel
theorem dX12_priceAt_88 : decode cX12_priceAt 88 = .ok (.iconst 2, 1) := by decide +kernel
theorem dX12_priceAt_89 : decode cX12_priceAt 89 = .ok (.if_icmp .ne 14, 3) := by decide +kernel
theorem dX12_priceAt_92 : decode cX12_priceAt 92 = .ok (.lload 8, 2) := by decide +kernel
theorem dX12_priceAt_94 : decode cX12_priceAt 94 = .ok (.lload 4, 2) := by decide +kernel
theorem dX12_priceAt_96 : decode cX12_priceAt 96 = .ok (.lcmp, 1) := by decide +kernel
theorem dX12_priceAt_97 : decode cX12_priceAt 97 = .ok (.ifCond .le 18, 3) := by decide +kernel
theorem dX12_priceAt_100 : decode cX12_priceAt 100 = .ok (.goto 11, 3) := by decide +kernel
theorem dX12_priceAt_103 : decode cX12_priceAt 103 = .ok (.lload 8, 2) := by decide +kernel
theorem dX12_priceAt_105 : decode cX12_priceAt 105 = .ok (.lload 4, 2) := by decide +kernel
theorem dX12_priceAt_107 : decode cX12_priceAt 107 = .ok (.lcmp, 1) := by decide +kernel
theorem dX12_priceAt_108 : decode cX12_priceAt 108 = .ok (.ifCond .ge 7, 3) := by decide +kernel
theorem dX12_priceAt_111 : decode cX12_priceAt 111 = .ok (.iconst 1, 1) := by decide +kernel
theorem dX12_priceAt_112 : decode cX12_priceAt 112 = .ok (.goto 4, 3) := by decide +kernel
theorem dX12_priceAt_115 : decode cX12_priceAt 115 = .ok (.iconst 0, 1) := by decide +kernel
theorem dX12_priceAt_116 : decode cX12_priceAt 116 = .ok (.istore 11, 2) := by decide +kernel
theorem dX12_priceAt_118 : decode cX12_priceAt 118 = .ok (.iload 11, 2) := by decide +kernel
theorem dX12_priceAt_120 : decode cX12_priceAt 120 = .ok (.ifCond .eq 7, 3) := by decide +kernel
theorem dX12_priceAt_123 : decode cX12_priceAt 123 = .ok (.iconst 1, 1) := by decide +kernel
theorem dX12_priceAt_124 : decode cX12_priceAt 124 = .ok (.goto 4, 3) := by decide +kernel
theorem dX12_priceAt_127 : decode cX12_priceAt 127 = .ok (.iload_n 3, 1) := by decide +kernel
theorem dX12_priceAt_128 : decode cX12_priceAt 128 = .ok (.istore_n 3, 1) := by decide +kernel
theorem dX12_priceAt_129 : decode cX12_priceAt 129 = .ok (.goto 98, 3) := by decide +kernel
theorem dX12_priceAt_132 : decode cX12_priceAt 132 = .ok (.iload 10, 2) := by decide +kernel
theorem dX12_priceAt_134 : decode cX12_priceAt 134 = .ok (.iconst 5, 1) := by decide +kernel
theorem dX12_priceAt_135 : decode cX12_priceAt 135 = .ok (.if_icmp .ne 16, 3) := by decide +kernel
theorem dX12_priceAt_138 : decode cX12_priceAt 138 = .ok (.lload 8, 2) := by decide +kernel
theorem dX12_priceAt_140 : decode cX12_priceAt 140 = .ok (.lload 4, 2) := by decide +kernel
theorem dX12_priceAt_142 : decode cX12_priceAt 142 = .ok (.lcmp, 1) := by decide +kernel
theorem dX12_priceAt_143 : decode cX12_priceAt 143 = .ok (.ifCond .ne 8, 3) := by decide +kernel
theorem dX12_priceAt_146 : decode cX12_priceAt 146 = .ok (.iconst 0, 1) := by decide +kernel
theorem dX12_priceAt_147 : decode cX12_priceAt 147 = .ok (.istore_n 3, 1) := by decide +kernel
theorem dX12_priceAt_148 : decode cX12_priceAt 148 = .ok (.goto 79, 3) := by decide +kernel
theorem dX12_priceAt_151 : decode cX12_priceAt 151 = .ok (.iload 10, 2) := by decide +kernel
theorem dX12_priceAt_153 : decode cX12_priceAt 153 = .ok (.iconst 5, 1) := by decide +kernel
theorem dX12_priceAt_154 : decode cX12_priceAt 154 = .ok (.if_icmp .ne 32, 3) := by decide +kernel
theorem dX12_priceAt_157 : decode cX12_priceAt 157 = .ok (.aload_n 0, 1) := by decide +kernel
theorem dX12_priceAt_158 : decode cX12_priceAt 158 = .ok (.getfield 74, 3) := by decide +kernel
theorem dX12_priceAt_161 : decode cX12_priceAt 161 = .ok (.iload_n 2, 1) := by decide +kernel
theorem dX12_priceAt_162 : decode cX12_priceAt 162 = .ok (.iaload, 1) := by decide +kernel
theorem dX12_priceAt_163 : decode cX12_priceAt 163 = .ok (.iconst 1, 1) := by decide +kernel
theorem dX12_priceAt_164 : decode cX12_priceAt 164 = .ok (.if_icmp .ne 22, 3) := by decide +kernel
theorem dX12_priceAt_167 : decode cX12_priceAt 167 = .ok (.lload 8, 2) := by decide +kernel
theorem dX12_priceAt_169 : decode cX12_priceAt 169 = .ok (.lload 4, 2) := by decide +kernel
theorem dX12_priceAt_171 : decode cX12_priceAt 171 = .ok (.invokestatic 310, 3) := by decide +kernel
theorem dX12_priceAt_174 : decode cX12_priceAt 174 = .ok (.ifCond .eq 12, 3) := by decide +kernel
theorem dX12_priceAt_177 : decode cX12_priceAt 177 = .ok (.iload_n 3, 1) := by decide +kernel
theorem dX12_priceAt_178 : decode cX12_priceAt 178 = .ok (.iconst 2, 1) := by decide +kernel
theorem dX12_priceAt_179 : decode cX12_priceAt 179 = .ok (.invokestatic 314, 3) := by decide +kernel
theorem dX12_priceAt_182 : decode cX12_priceAt 182 = .ok (.istore_n 3, 1) := by decide +kernel
theorem dX12_priceAt_183 : decode cX12_priceAt 183 = .ok (.goto 44, 3) := by decide +kernel
theorem dX12_priceAt_186 : decode cX12_priceAt 186 = .ok (.iload 10, 2) := by decide +kernel
theorem dX12_priceAt_188 : decode cX12_priceAt 188 = .ok (.iconst 5, 1) := by decide +kernel
theorem dX12_priceAt_189 : decode cX12_priceAt 189 = .ok (.if_icmp .ne 38, 3) := by decide +kernel
theorem dX12_priceAt_192 : decode cX12_priceAt 192 = .ok (.aload_n 0, 1) := by decide +kernel
theorem dX12_priceAt_193 : decode cX12_priceAt 193 = .ok (.getfield 74, 3) := by decide +kernel
theorem dX12_priceAt_196 : decode cX12_priceAt 196 = .ok (.iload_n 2, 1) := by decide +kernel
theorem dX12_priceAt_197 : decode cX12_priceAt 197 = .ok (.iaload, 1) := by decide +kernel
theorem dX12_priceAt_198 : decode cX12_priceAt 198 = .ok (.ifCond .ne 29, 3) := by decide +kernel
theorem dX12_priceAt_201 : decode cX12_priceAt 201 = .ok (.lload 8, 2) := by decide +kernel
theorem dX12_priceAt_203 : decode cX12_priceAt 203 = .ok (.lload 4, 2) := by decide +kernel
theorem dX12_priceAt_205 : decode cX12_priceAt 205 = .ok (.invokestatic 317, 3) := by decide +kernel
theorem dX12_priceAt_208 : decode cX12_priceAt 208 = .ok (.ifCond .ne 13, 3) := by decide +kernel
theorem dX12_priceAt_211 : decode cX12_priceAt 211 = .ok (.lload 4, 2) := by decide +kernel
theorem dX12_priceAt_213 : decode cX12_priceAt 213 = .ok (.lload 8, 2) := by decide +kernel
theorem dX12_priceAt_215 : decode cX12_priceAt 215 = .ok (.invokestatic 317, 3) := by decide +kernel
theorem dX12_priceAt_218 : decode cX12_priceAt 218 = .ok (.ifCond .eq 9, 3) := by decide +kernel
theorem dX12_priceAt_221 : decode cX12_priceAt 221 = .ok (.iload_n 3, 1) := by decide +kernel
theorem dX12_priceAt_222 : decode cX12_priceAt 222 = .ok (.iconst 1, 1) := by decide +kernel
theorem dX12_priceAt_223 : decode cX12_priceAt 223 = .ok (.invokestatic 314, 3) := by decide +kernel
theorem dX12_priceAt_226 : decode cX12_priceAt 226 = .ok (.istore_n 3, 1) := by decide +kernel
theorem dX12_priceAt_227 : decode cX12_priceAt 227 = .ok (.iinc 7 1, 3) := by decide +kernel
theorem dX12_priceAt_230 : decode cX12_priceAt 230 = .ok (.goto (-209), 3) := by decide +kernel
theorem dX12_priceAt_233 : decode cX12_priceAt 233 = .ok (.iconst 0, 1) := by decide +kernel
theorem dX12_priceAt_234 : decode cX12_priceAt 234 = .ok (.istore 7, 2) := by decide +kernel
theorem dX12_priceAt_236 : decode cX12_priceAt 236 = .ok (.iload 7, 2) := by decide +kernel
theorem dX12_priceAt_238 : decode cX12_priceAt 238 = .ok (.aload_n 0, 1) := by decide +kernel
theorem dX12_priceAt_239 : decode cX12_priceAt 239 = .ok (.getfield 59, 3) := by decide +kernel
theorem dX12_priceAt_242 : decode cX12_priceAt 242 = .ok (.iload 6, 2) := by decide +kernel
theorem dX12_priceAt_244 : decode cX12_priceAt 244 = .ok (.iaload, 1) := by decide +kernel
theorem dX12_priceAt_245 : decode cX12_priceAt 245 = .ok (.if_icmp .ge 46, 3) := by decide +kernel
theorem dX12_priceAt_248 : decode cX12_priceAt 248 = .ok (.aload_n 0, 1) := by decide +kernel
theorem dX12_priceAt_249 : decode cX12_priceAt 249 = .ok (.getfield 74, 3) := by decide +kernel
theorem dX12_priceAt_252 : decode cX12_priceAt 252 = .ok (.iload_n 2, 1) := by decide +kernel
theorem dX12_priceAt_253 : decode cX12_priceAt 253 = .ok (.iaload, 1) := by decide +kernel
theorem dX12_priceAt_254 : decode cX12_priceAt 254 = .ok (.ifCond .ne 37, 3) := by decide +kernel
theorem dX12_priceAt_257 : decode cX12_priceAt 257 = .ok (.aload_n 0, 1) := by decide +kernel
theorem dX12_priceAt_258 : decode cX12_priceAt 258 = .ok (.getfield 62, 3) := by decide +kernel
theorem dX12_priceAt_261 : decode cX12_priceAt 261 = .ok (.iconst 4, 1) := by decide +kernel
theorem dX12_priceAt_262 : decode cX12_priceAt 262 = .ok (.iload 6, 2) := by decide +kernel
theorem dX12_priceAt_264 : decode cX12_priceAt 264 = .ok (.imul, 1) := by decide +kernel
theorem dX12_priceAt_265 : decode cX12_priceAt 265 = .ok (.iload 7, 2) := by decide +kernel
theorem dX12_priceAt_267 : decode cX12_priceAt 267 = .ok (.iadd, 1) := by decide +kernel
theorem dX12_priceAt_268 : decode cX12_priceAt 268 = .ok (.laload, 1) := by decide +kernel
theorem dX12_priceAt_269 : decode cX12_priceAt 269 = .ok (.lload 4, 2) := by decide +kernel
theorem dX12_priceAt_271 : decode cX12_priceAt 271 = .ok (.lcmp, 1) := by decide +kernel
theorem dX12_priceAt_272 : decode cX12_priceAt 272 = .ok (.ifCond .ne 11, 3) := by decide +kernel
theorem dX12_priceAt_275 : decode cX12_priceAt 275 = .ok (.iload_n 3, 1) := by decide +kernel
theorem dX12_priceAt_276 : decode cX12_priceAt 276 = .ok (.iconst 4, 1) := by decide +kernel
theorem dX12_priceAt_277 : decode cX12_priceAt 277 = .ok (.invokestatic 314, 3) := by decide +kernel
theorem dX12_priceAt_280 : decode cX12_priceAt 280 = .ok (.goto 4, 3) := by decide +kernel
theorem dX12_priceAt_283 : decode cX12_priceAt 283 = .ok (.iload_n 3, 1) := by decide +kernel
theorem dX12_priceAt_284 : decode cX12_priceAt 284 = .ok (.istore_n 3, 1) := by decide +kernel
theorem dX12_priceAt_285 : decode cX12_priceAt 285 = .ok (.iinc 7 1, 3) := by decide +kernel
theorem dX12_priceAt_288 : decode cX12_priceAt 288 = .ok (.goto (-52), 3) := by decide +kernel
theorem dX12_priceAt_291 : decode cX12_priceAt 291 = .ok (.aload_n 0, 1) := by decide +kernel
theorem dX12_priceAt_292 : decode cX12_priceAt 292 = .ok (.getfield 74, 3) := by decide +kernel
theorem dX12_priceAt_295 : decode cX12_priceAt 295 = .ok (.iload_n 2, 1) := by decide +kernel
theorem dX12_priceAt_296 : decode cX12_priceAt 296 = .ok (.iaload, 1) := by decide +kernel
theorem dX12_priceAt_297 : decode cX12_priceAt 297 = .ok (.ifCond .ne 24, 3) := by decide +kernel
theorem dX12_priceAt_300 : decode cX12_priceAt 300 = .ok (.aload_n 0, 1) := by decide +kernel
theorem dX12_priceAt_301 : decode cX12_priceAt 301 = .ok (.getfield 56, 3) := by decide +kernel
theorem dX12_priceAt_304 : decode cX12_priceAt 304 = .ok (.iload 6, 2) := by decide +kernel
theorem dX12_priceAt_306 : decode cX12_priceAt 306 = .ok (.laload, 1) := by decide +kernel
theorem dX12_priceAt_307 : decode cX12_priceAt 307 = .ok (.lload 4, 2) := by decide +kernel
theorem dX12_priceAt_309 : decode cX12_priceAt 309 = .ok (.lcmp, 1) := by decide +kernel
theorem dX12_priceAt_310 : decode cX12_priceAt 310 = .ok (.ifCond .ne 11, 3) := by decide +kernel
theorem dX12_priceAt_313 : decode cX12_priceAt 313 = .ok (.iload_n 3, 1) := by decide +kernel
theorem dX12_priceAt_314 : decode cX12_priceAt 314 = .ok (.iconst 3, 1) := by decide +kernel
theorem dX12_priceAt_315 : decode cX12_priceAt 315 = .ok (.invokestatic 314, 3) := by decide +kernel
theorem dX12_priceAt_318 : decode cX12_priceAt 318 = .ok (.goto 4, 3) := by decide +kernel
theorem dX12_priceAt_321 : decode cX12_priceAt 321 = .ok (.iload_n 3, 1) := by decide +kernel
theorem dX12_priceAt_322 : decode cX12_priceAt 322 = .ok (.ireturn, 1) := by decide +kernel
theorem dX12_isColumn_0 : decode cX12_isColumn 0 = .ok (.iload_n 1, 1) := by decide +kernel
theorem dX12_isColumn_1 : decode cX12_isColumn 1 = .ok (.aload_n 0, 1) := by decide +kernel
theorem dX12_isColumn_2 : decode cX12_isColumn 2 = .ok (.getfield 53, 3) := by decide +kernel
theorem dX12_isColumn_5 : decode cX12_isColumn 5 = .ok (.iconst 0, 1) := by decide +kernel
theorem dX12_isColumn_6 : decode cX12_isColumn 6 = .ok (.iaload, 1) := by decide +kernel
theorem dX12_isColumn_7 : decode cX12_isColumn 7 = .ok (.if_icmp .ge 31, 3) := by decide +kernel
theorem dX12_isColumn_10 : decode cX12_isColumn 10 = .ok (.iload_n 2, 1) := by decide +kernel
theorem dX12_isColumn_11 : decode cX12_isColumn 11 = .ok (.aload_n 0, 1) := by decide +kernel
theorem dX12_isColumn_12 : decode cX12_isColumn 12 = .ok (.getfield 59, 3) := by decide +kernel
theorem dX12_isColumn_15 : decode cX12_isColumn 15 = .ok (.iload_n 1, 1) := by decide +kernel
theorem dX12_isColumn_16 : decode cX12_isColumn 16 = .ok (.iaload, 1) := by decide +kernel
theorem dX12_isColumn_17 : decode cX12_isColumn 17 = .ok (.if_icmp .ge 21, 3) := by decide +kernel
theorem dX12_isColumn_20 : decode cX12_isColumn 20 = .ok (.aload_n 0, 1) := by decide +kernel
theorem dX12_isColumn_21 : decode cX12_isColumn 21 = .ok (.getfield 65, 3) := by decide +kernel
theorem dX12_isColumn_24 : decode cX12_isColumn 24 = .ok (.iconst 4, 1) := by decide +kernel
theorem dX12_isColumn_25 : decode cX12_isColumn 25 = .ok (.iload_n 1, 1) := by decide +kernel
theorem dX12_isColumn_26 : decode cX12_isColumn 26 = .ok (.imul, 1) := by decide +kernel
theorem dX12_isColumn_27 : decode cX12_isColumn 27 = .ok (.iload_n 2, 1) := by decide +kernel
theorem dX12_isColumn_28 : decode cX12_isColumn 28 = .ok (.iadd, 1) := by decide +kernel
theorem dX12_isColumn_29 : decode cX12_isColumn 29 = .ok (.iaload, 1) := by decide +kernel
theorem dX12_isColumn_30 : decode cX12_isColumn 30 = .ok (.iload_n 3, 1) := by decide +kernel
theorem dX12_isColumn_31 : decode cX12_isColumn 31 = .ok (.if_icmp .ne 7, 3) := by decide +kernel
theorem dX12_isColumn_34 : decode cX12_isColumn 34 = .ok (.iconst 1, 1) := by decide +kernel
theorem dX12_isColumn_35 : decode cX12_isColumn 35 = .ok (.goto 4, 3) := by decide +kernel
theorem dX12_isColumn_38 : decode cX12_isColumn 38 = .ok (.iconst 0, 1) := by decide +kernel
theorem dX12_isColumn_39 : decode cX12_isColumn 39 = .ok (.ireturn, 1) := by decide +kernel
theorem dX12_isEach_0 : decode cX12_isEach 0 = .ok (.iconst 0, 1) := by decide +kernel
theorem dX12_isEach_1 : decode cX12_isEach 1 = .ok (.istore_n 3, 1) := by decide +kernel
theorem dX12_isEach_2 : decode cX12_isEach 2 = .ok (.iconst 0, 1) := by decide +kernel
theorem dX12_isEach_3 : decode cX12_isEach 3 = .ok (.istore 4, 2) := by decide +kernel
theorem dX12_isEach_5 : decode cX12_isEach 5 = .ok (.iload 4, 2) := by decide +kernel
theorem dX12_isEach_7 : decode cX12_isEach 7 = .ok (.aload_n 0, 1) := by decide +kernel
theorem dX12_isEach_8 : decode cX12_isEach 8 = .ok (.getfield 223, 3) := by decide +kernel
theorem dX12_isEach_11 : decode cX12_isEach 11 = .ok (.if_icmp .ge 95, 3) := by decide +kernel
theorem dX12_isEach_14 : decode cX12_isEach 14 = .ok (.aload_n 0, 1) := by decide +kernel
theorem dX12_isEach_15 : decode cX12_isEach 15 = .ok (.getfield 68, 3) := by decide +kernel
theorem dX12_isEach_18 : decode cX12_isEach 18 = .ok (.iload 4, 2) := by decide +kernel
theorem dX12_isEach_20 : decode cX12_isEach 20 = .ok (.iaload, 1) := by decide +kernel
theorem dX12_isEach_21 : decode cX12_isEach 21 = .ok (.iload_n 1, 1) := by decide +kernel
theorem dX12_isEach_22 : decode cX12_isEach 22 = .ok (.if_icmp .ne 78, 3) := by decide +kernel
theorem dX12_isEach_25 : decode cX12_isEach 25 = .ok (.aload_n 0, 1) := by decide +kernel
theorem dX12_isEach_26 : decode cX12_isEach 26 = .ok (.iload 4, 2) := by decide +kernel
theorem dX12_isEach_28 : decode cX12_isEach 28 = .ok (.invokevirtual 287, 3) := by decide +kernel
theorem dX12_isEach_31 : decode cX12_isEach 31 = .ok (.ifCond .eq 69, 3) := by decide +kernel
theorem dX12_isEach_34 : decode cX12_isEach 34 = .ok (.iconst 1, 1) := by decide +kernel
theorem dX12_isEach_35 : decode cX12_isEach 35 = .ok (.istore_n 3, 1) := by decide +kernel
theorem dX12_isEach_36 : decode cX12_isEach 36 = .ok (.iconst 0, 1) := by decide +kernel
theorem dX12_isEach_37 : decode cX12_isEach 37 = .ok (.istore 5, 2) := by decide +kernel
theorem dX12_isEach_39 : decode cX12_isEach 39 = .ok (.iload 5, 2) := by decide +kernel
theorem dX12_isEach_41 : decode cX12_isEach 41 = .ok (.iload 4, 2) := by decide +kernel
theorem dX12_isEach_43 : decode cX12_isEach 43 = .ok (.if_icmp .ge 57, 3) := by decide +kernel
theorem dX12_isEach_46 : decode cX12_isEach 46 = .ok (.aload_n 0, 1) := by decide +kernel
theorem dX12_isEach_47 : decode cX12_isEach 47 = .ok (.getfield 68, 3) := by decide +kernel
theorem dX12_isEach_50 : decode cX12_isEach 50 = .ok (.iload 5, 2) := by decide +kernel
theorem dX12_isEach_52 : decode cX12_isEach 52 = .ok (.iaload, 1) := by decide +kernel
theorem dX12_isEach_53 : decode cX12_isEach 53 = .ok (.iload_n 1, 1) := by decide +kernel
theorem dX12_isEach_54 : decode cX12_isEach 54 = .ok (.if_icmp .ne 40, 3) := by decide +kernel
theorem dX12_isEach_57 : decode cX12_isEach 57 = .ok (.aload_n 0, 1) := by decide +kernel
theorem dX12_isEach_58 : decode cX12_isEach 58 = .ok (.iload 5, 2) := by decide +kernel
theorem dX12_isEach_60 : decode cX12_isEach 60 = .ok (.invokevirtual 287, 3) := by decide +kernel
theorem dX12_isEach_63 : decode cX12_isEach 63 = .ok (.ifCond .eq 31, 3) := by decide +kernel
theorem dX12_isEach_66 : decode cX12_isEach 66 = .ok (.aload_n 0, 1) := by decide +kernel
theorem dX12_isEach_67 : decode cX12_isEach 67 = .ok (.getfield 71, 3) := by decide +kernel
theorem dX12_isEach_70 : decode cX12_isEach 70 = .ok (.iconst 4, 1) := by decide +kernel
theorem dX12_isEach_71 : decode cX12_isEach 71 = .ok (.iload 5, 2) := by decide +kernel
theorem dX12_isEach_73 : decode cX12_isEach 73 = .ok (.imul, 1) := by decide +kernel
theorem dX12_isEach_74 : decode cX12_isEach 74 = .ok (.iload_n 2, 1) := by decide +kernel
theorem dX12_isEach_75 : decode cX12_isEach 75 = .ok (.iadd, 1) := by decide +kernel
theorem dX12_isEach_76 : decode cX12_isEach 76 = .ok (.laload, 1) := by decide +kernel
theorem dX12_isEach_77 : decode cX12_isEach 77 = .ok (.aload_n 0, 1) := by decide +kernel
theorem dX12_isEach_78 : decode cX12_isEach 78 = .ok (.getfield 71, 3) := by decide +kernel
theorem dX12_isEach_81 : decode cX12_isEach 81 = .ok (.iconst 4, 1) := by decide +kernel
theorem dX12_isEach_82 : decode cX12_isEach 82 = .ok (.iload 4, 2) := by decide +kernel
theorem dX12_isEach_84 : decode cX12_isEach 84 = .ok (.imul, 1) := by decide +kernel
theorem dX12_isEach_85 : decode cX12_isEach 85 = .ok (.iload_n 2, 1) := by decide +kernel
theorem dX12_isEach_86 : decode cX12_isEach 86 = .ok (.iadd, 1) := by decide +kernel
theorem dX12_isEach_87 : decode cX12_isEach 87 = .ok (.laload, 1) := by decide +kernel
theorem dX12_isEach_88 : decode cX12_isEach 88 = .ok (.lcmp, 1) := by decide +kernel
theorem dX12_isEach_89 : decode cX12_isEach 89 = .ok (.ifCond .ne 5, 3) := by decide +kernel
theorem dX12_isEach_92 : decode cX12_isEach 92 = .ok (.iconst 0, 1) := by decide +kernel
theorem dX12_isEach_93 : decode cX12_isEach 93 = .ok (.ireturn, 1) := by decide +kernel
theorem dX12_isEach_94 : decode cX12_isEach 94 = .ok (.iinc 5 1, 3) := by decide +kernel
theorem dX12_isEach_97 : decode cX12_isEach 97 = .ok (.goto (-58), 3) := by decide +kernel
theorem dX12_isEach_100 : decode cX12_isEach 100 = .ok (.iinc 4 1, 3) := by decide +kernel
theorem dX12_isEach_103 : decode cX12_isEach 103 = .ok (.goto (-98), 3) := by decide +kernel
theorem dX12_isEach_106 : decode cX12_isEach 106 = .ok (.iload_n 3, 1) := by decide +kernel
theorem dX12_isEach_107 : decode cX12_isEach 107 = .ok (.ireturn, 1) := by decide +kernel
theorem dX12_areAmong_0 : decode cX12_areAmong 0 = .ok (.iconst 0, 1) := by decide +kernel
theorem dX12_areAmong_1 : decode cX12_areAmong 1 = .ok (.istore 5, 2) := by decide +kernel
theorem dX12_areAmong_3 : decode cX12_areAmong 3 = .ok (.iconst 0, 1) := by decide +kernel
theorem dX12_areAmong_4 : decode cX12_areAmong 4 = .ok (.istore 6, 2) := by decide +kernel
theorem dX12_areAmong_6 : decode cX12_areAmong 6 = .ok (.iload 6, 2) := by decide +kernel
theorem dX12_areAmong_8 : decode cX12_areAmong 8 = .ok (.aload_n 0, 1) := by decide +kernel
theorem dX12_areAmong_9 : decode cX12_areAmong 9 = .ok (.getfield 223, 3) := by decide +kernel
theorem dX12_areAmong_12 : decode cX12_areAmong 12 = .ok (.if_icmp .ge 119, 3) := by decide +kernel
theorem dX12_areAmong_15 : decode cX12_areAmong 15 = .ok (.aload_n 0, 1) := by decide +kernel
theorem dX12_areAmong_16 : decode cX12_areAmong 16 = .ok (.getfield 68, 3) := by decide +kernel
theorem dX12_areAmong_19 : decode cX12_areAmong 19 = .ok (.iload 6, 2) := by decide +kernel
theorem dX12_areAmong_21 : decode cX12_areAmong 21 = .ok (.iaload, 1) := by decide +kernel
theorem dX12_areAmong_22 : decode cX12_areAmong 22 = .ok (.iload_n 1, 1) := by decide +kernel
theorem dX12_areAmong_23 : decode cX12_areAmong 23 = .ok (.if_icmp .ne 102, 3) := by decide +kernel
theorem dX12_areAmong_26 : decode cX12_areAmong 26 = .ok (.aload_n 0, 1) := by decide +kernel
theorem dX12_areAmong_27 : decode cX12_areAmong 27 = .ok (.iload 6, 2) := by decide +kernel
theorem dX12_areAmong_29 : decode cX12_areAmong 29 = .ok (.invokevirtual 287, 3) := by decide +kernel
theorem dX12_areAmong_32 : decode cX12_areAmong 32 = .ok (.ifCond .eq 93, 3) := by decide +kernel
theorem dX12_areAmong_35 : decode cX12_areAmong 35 = .ok (.iconst 1, 1) := by decide +kernel
theorem dX12_areAmong_36 : decode cX12_areAmong 36 = .ok (.istore 5, 2) := by decide +kernel
theorem dX12_areAmong_38 : decode cX12_areAmong 38 = .ok (.iconst 0, 1) := by decide +kernel
theorem dX12_areAmong_39 : decode cX12_areAmong 39 = .ok (.istore 7, 2) := by decide +kernel
theorem dX12_areAmong_41 : decode cX12_areAmong 41 = .ok (.iconst 0, 1) := by decide +kernel
theorem dX12_areAmong_42 : decode cX12_areAmong 42 = .ok (.istore 8, 2) := by decide +kernel
theorem dX12_areAmong_44 : decode cX12_areAmong 44 = .ok (.iload 8, 2) := by decide +kernel
theorem dX12_areAmong_46 : decode cX12_areAmong 46 = .ok (.aload_n 0, 1) := by decide +kernel
theorem dX12_areAmong_47 : decode cX12_areAmong 47 = .ok (.getfield 223, 3) := by decide +kernel
theorem dX12_areAmong_50 : decode cX12_areAmong 50 = .ok (.if_icmp .ge 68, 3) := by decide +kernel
theorem dX12_areAmong_53 : decode cX12_areAmong 53 = .ok (.iload 7, 2) := by decide +kernel
theorem dX12_areAmong_55 : decode cX12_areAmong 55 = .ok (.ifCond .ne 50, 3) := by decide +kernel
theorem dX12_areAmong_58 : decode cX12_areAmong 58 = .ok (.aload_n 0, 1) := by decide +kernel
theorem dX12_areAmong_59 : decode cX12_areAmong 59 = .ok (.getfield 68, 3) := by decide +kernel
theorem dX12_areAmong_62 : decode cX12_areAmong 62 = .ok (.iload 8, 2) := by decide +kernel
theorem dX12_areAmong_64 : decode cX12_areAmong 64 = .ok (.iaload, 1) := by decide +kernel
theorem dX12_areAmong_65 : decode cX12_areAmong 65 = .ok (.iload_n 3, 1) := by decide +kernel
theorem dX12_areAmong_66 : decode cX12_areAmong 66 = .ok (.if_icmp .ne 43, 3) := by decide +kernel
theorem dX12_areAmong_69 : decode cX12_areAmong 69 = .ok (.aload_n 0, 1) := by decide +kernel
theorem dX12_areAmong_70 : decode cX12_areAmong 70 = .ok (.iload 8, 2) := by decide +kernel
theorem dX12_areAmong_72 : decode cX12_areAmong 72 = .ok (.invokevirtual 287, 3) := by decide +kernel
theorem dX12_areAmong_75 : decode cX12_areAmong 75 = .ok (.ifCond .eq 34, 3) := by decide +kernel
theorem dX12_areAmong_78 : decode cX12_areAmong 78 = .ok (.aload_n 0, 1) := by decide +kernel
theorem dX12_areAmong_79 : decode cX12_areAmong 79 = .ok (.getfield 71, 3) := by decide +kernel
theorem dX12_areAmong_82 : decode cX12_areAmong 82 = .ok (.iconst 4, 1) := by decide +kernel
theorem dX12_areAmong_83 : decode cX12_areAmong 83 = .ok (.iload 8, 2) := by decide +kernel
theorem dX12_areAmong_85 : decode cX12_areAmong 85 = .ok (.imul, 1) := by decide +kernel
theorem dX12_areAmong_86 : decode cX12_areAmong 86 = .ok (.iload 4, 2) := by decide +kernel
theorem dX12_areAmong_88 : decode cX12_areAmong 88 = .ok (.iadd, 1) := by decide +kernel
theorem dX12_areAmong_89 : decode cX12_areAmong 89 = .ok (.laload, 1) := by decide +kernel
theorem dX12_areAmong_90 : decode cX12_areAmong 90 = .ok (.aload_n 0, 1) := by decide +kernel
theorem dX12_areAmong_91 : decode cX12_areAmong 91 = .ok (.getfield 71, 3) := by decide +kernel
theorem dX12_areAmong_94 : decode cX12_areAmong 94 = .ok (.iconst 4, 1) := by decide +kernel
theorem dX12_areAmong_95 : decode cX12_areAmong 95 = .ok (.iload 6, 2) := by decide +kernel
theorem dX12_areAmong_97 : decode cX12_areAmong 97 = .ok (.imul, 1) := by decide +kernel
theorem dX12_areAmong_98 : decode cX12_areAmong 98 = .ok (.iload_n 2, 1) := by decide +kernel
theorem dX12_areAmong_99 : decode cX12_areAmong 99 = .ok (.iadd, 1) := by decide +kernel
theorem dX12_areAmong_100 : decode cX12_areAmong 100 = .ok (.laload, 1) := by decide +kernel
theorem dX12_areAmong_101 : decode cX12_areAmong 101 = .ok (.lcmp, 1) := by decide +kernel
theorem dX12_areAmong_102 : decode cX12_areAmong 102 = .ok (.ifCond .ne 7, 3) := by decide +kernel
theorem dX12_areAmong_105 : decode cX12_areAmong 105 = .ok (.iconst 1, 1) := by decide +kernel
theorem dX12_areAmong_106 : decode cX12_areAmong 106 = .ok (.goto 4, 3) := by decide +kernel
theorem dX12_areAmong_109 : decode cX12_areAmong 109 = .ok (.iconst 0, 1) := by decide +kernel
theorem dX12_areAmong_110 : decode cX12_areAmong 110 = .ok (.istore 7, 2) := by decide +kernel
theorem dX12_areAmong_112 : decode cX12_areAmong 112 = .ok (.iinc 8 1, 3) := by decide +kernel
theorem dX12_areAmong_115 : decode cX12_areAmong 115 = .ok (.goto (-71), 3) := by decide +kernel
theorem dX12_areAmong_118 : decode cX12_areAmong 118 = .ok (.iload 7, 2) := by decide +kernel
theorem dX12_areAmong_120 : decode cX12_areAmong 120 = .ok (.ifCond .ne 5, 3) := by decide +kernel
theorem dX12_areAmong_123 : decode cX12_areAmong 123 = .ok (.iconst 0, 1) := by decide +kernel
theorem dX12_areAmong_124 : decode cX12_areAmong 124 = .ok (.ireturn, 1) := by decide +kernel
theorem dX12_areAmong_125 : decode cX12_areAmong 125 = .ok (.iinc 6 1, 3) := by decide +kernel
theorem dX12_areAmong_128 : decode cX12_areAmong 128 = .ok (.goto (-122), 3) := by decide +kernel
theorem dX12_areAmong_131 : decode cX12_areAmong 131 = .ok (.iload 5, 2) := by decide +kernel
theorem dX12_areAmong_133 : decode cX12_areAmong 133 = .ok (.ireturn, 1) := by decide +kernel
theorem dX12_findOffers_0 : decode cX12_findOffers 0 = .ok (.aload_n 0, 1) := by decide +kernel
theorem dX12_findOffers_1 : decode cX12_findOffers 1 = .ok (.iconst 0, 1) := by decide +kernel
theorem dX12_findOffers_2 : decode cX12_findOffers 2 = .ok (.putfield 320, 3) := by decide +kernel
theorem dX12_findOffers_5 : decode cX12_findOffers 5 = .ok (.iconst 0, 1) := by decide +kernel
theorem dX12_findOffers_6 : decode cX12_findOffers 6 = .ok (.istore_n 1, 1) := by decide +kernel
theorem dX12_findOffers_7 : decode cX12_findOffers 7 = .ok (.iload_n 1, 1) := by decide +kernel
theorem dX12_findOffers_8 : decode cX12_findOffers 8 = .ok (.bipush 20, 2) := by decide +kernel
theorem dX12_findOffers_10 : decode cX12_findOffers 10 = .ok (.if_icmp .ge 127, 3) := by decide +kernel
theorem dX12_findOffers_13 : decode cX12_findOffers 13 = .ok (.iconst 0, 1) := by decide +kernel
theorem dX12_findOffers_14 : decode cX12_findOffers 14 = .ok (.istore_n 2, 1) := by decide +kernel
theorem dX12_findOffers_15 : decode cX12_findOffers 15 = .ok (.iload_n 2, 1) := by decide +kernel
theorem dX12_findOffers_16 : decode cX12_findOffers 16 = .ok (.bipush 20, 2) := by decide +kernel
theorem dX12_findOffers_18 : decode cX12_findOffers 18 = .ok (.if_icmp .ge 113, 3) := by decide +kernel
theorem dX12_findOffers_21 : decode cX12_findOffers 21 = .ok (.aload_n 0, 1) := by decide +kernel
theorem dX12_findOffers_22 : decode cX12_findOffers 22 = .ok (.iload_n 1, 1) := by decide +kernel
theorem dX12_findOffers_23 : decode cX12_findOffers 23 = .ok (.iconst 4, 1) := by decide +kernel
theorem dX12_findOffers_24 : decode cX12_findOffers 24 = .ok (.idiv, 1) := by decide +kernel
theorem dX12_findOffers_25 : decode cX12_findOffers 25 = .ok (.iload_n 1, 1) := by decide +kernel
theorem dX12_findOffers_26 : decode cX12_findOffers 26 = .ok (.iconst 4, 1) := by decide +kernel
theorem dX12_findOffers_27 : decode cX12_findOffers 27 = .ok (.irem, 1) := by decide +kernel
theorem dX12_findOffers_28 : decode cX12_findOffers 28 = .ok (.iconst 5, 1) := by decide +kernel
theorem dX12_findOffers_29 : decode cX12_findOffers 29 = .ok (.invokevirtual 323, 3) := by decide +kernel
theorem dX12_findOffers_32 : decode cX12_findOffers 32 = .ok (.ifCond .eq 30, 3) := by decide +kernel
theorem dX12_findOffers_35 : decode cX12_findOffers 35 = .ok (.aload_n 0, 1) := by decide +kernel
theorem dX12_findOffers_36 : decode cX12_findOffers 36 = .ok (.iload_n 2, 1) := by decide +kernel
theorem dX12_findOffers_37 : decode cX12_findOffers 37 = .ok (.iconst 4, 1) := by decide +kernel
theorem dX12_findOffers_38 : decode cX12_findOffers 38 = .ok (.idiv, 1) := by decide +kernel
theorem dX12_findOffers_39 : decode cX12_findOffers 39 = .ok (.iload_n 2, 1) := by decide +kernel
theorem dX12_findOffers_40 : decode cX12_findOffers 40 = .ok (.iconst 4, 1) := by decide +kernel
theorem dX12_findOffers_41 : decode cX12_findOffers 41 = .ok (.irem, 1) := by decide +kernel
theorem dX12_findOffers_42 : decode cX12_findOffers 42 = .ok (.iconst 5, 1) := by decide +kernel
theorem dX12_findOffers_43 : decode cX12_findOffers 43 = .ok (.invokevirtual 323, 3) := by decide +kernel
theorem dX12_findOffers_46 : decode cX12_findOffers 46 = .ok (.ifCond .eq 16, 3) := by decide +kernel
theorem dX12_findOffers_49 : decode cX12_findOffers 49 = .ok (.iload_n 1, 1) := by decide +kernel
theorem dX12_findOffers_50 : decode cX12_findOffers 50 = .ok (.iconst 4, 1) := by decide +kernel
theorem dX12_findOffers_51 : decode cX12_findOffers 51 = .ok (.idiv, 1) := by decide +kernel
theorem dX12_findOffers_52 : decode cX12_findOffers 52 = .ok (.iload_n 2, 1) := by decide +kernel
theorem dX12_findOffers_53 : decode cX12_findOffers 53 = .ok (.iconst 4, 1) := by decide +kernel
theorem dX12_findOffers_54 : decode cX12_findOffers 54 = .ok (.idiv, 1) := by decide +kernel
theorem dX12_findOffers_55 : decode cX12_findOffers 55 = .ok (.if_icmp .eq 7, 3) := by decide +kernel
theorem dX12_findOffers_58 : decode cX12_findOffers 58 = .ok (.iconst 1, 1) := by decide +kernel
theorem dX12_findOffers_59 : decode cX12_findOffers 59 = .ok (.goto 4, 3) := by decide +kernel
theorem dX12_findOffers_62 : decode cX12_findOffers 62 = .ok (.iconst 0, 1) := by decide +kernel
theorem dX12_findOffers_63 : decode cX12_findOffers 63 = .ok (.istore_n 3, 1) := by decide +kernel
theorem dX12_findOffers_64 : decode cX12_findOffers 64 = .ok (.iload_n 3, 1) := by decide +kernel
theorem dX12_findOffers_65 : decode cX12_findOffers 65 = .ok (.ifCond .eq 60, 3) := by decide +kernel
theorem dX12_findOffers_68 : decode cX12_findOffers 68 = .ok (.aload_n 0, 1) := by decide +kernel
theorem dX12_findOffers_69 : decode cX12_findOffers 69 = .ok (.iload_n 2, 1) := by decide +kernel
theorem dX12_findOffers_70 : decode cX12_findOffers 70 = .ok (.iconst 4, 1) := by decide +kernel
theorem dX12_findOffers_71 : decode cX12_findOffers 71 = .ok (.idiv, 1) := by decide +kernel
theorem dX12_findOffers_72 : decode cX12_findOffers 72 = .ok (.iload_n 2, 1) := by decide +kernel
theorem dX12_findOffers_73 : decode cX12_findOffers 73 = .ok (.iconst 4, 1) := by decide +kernel
theorem dX12_findOffers_74 : decode cX12_findOffers 74 = .ok (.irem, 1) := by decide +kernel
theorem dX12_findOffers_75 : decode cX12_findOffers 75 = .ok (.invokevirtual 326, 3) := by decide +kernel
theorem dX12_findOffers_78 : decode cX12_findOffers 78 = .ok (.ifCond .eq 47, 3) := by decide +kernel
theorem dX12_findOffers_81 : decode cX12_findOffers 81 = .ok (.aload_n 0, 1) := by decide +kernel
theorem dX12_findOffers_82 : decode cX12_findOffers 82 = .ok (.iload_n 1, 1) := by decide +kernel
theorem dX12_findOffers_83 : decode cX12_findOffers 83 = .ok (.iconst 4, 1) := by decide +kernel
theorem dX12_findOffers_84 : decode cX12_findOffers 84 = .ok (.idiv, 1) := by decide +kernel
theorem dX12_findOffers_85 : decode cX12_findOffers 85 = .ok (.iload_n 1, 1) := by decide +kernel
theorem dX12_findOffers_86 : decode cX12_findOffers 86 = .ok (.iconst 4, 1) := by decide +kernel
theorem dX12_findOffers_87 : decode cX12_findOffers 87 = .ok (.irem, 1) := by decide +kernel
theorem dX12_findOffers_88 : decode cX12_findOffers 88 = .ok (.iload_n 2, 1) := by decide +kernel
theorem dX12_findOffers_89 : decode cX12_findOffers 89 = .ok (.iconst 4, 1) := by decide +kernel
theorem dX12_findOffers_90 : decode cX12_findOffers 90 = .ok (.idiv, 1) := by decide +kernel
theorem dX12_findOffers_91 : decode cX12_findOffers 91 = .ok (.iload_n 2, 1) := by decide +kernel
theorem dX12_findOffers_92 : decode cX12_findOffers 92 = .ok (.iconst 4, 1) := by decide +kernel
theorem dX12_findOffers_93 : decode cX12_findOffers 93 = .ok (.irem, 1) := by decide +kernel
theorem dX12_findOffers_94 : decode cX12_findOffers 94 = .ok (.invokevirtual 330, 3) := by decide +kernel
theorem dX12_findOffers_97 : decode cX12_findOffers 97 = .ok (.ifCond .eq 28, 3) := by decide +kernel
theorem dX12_findOffers_100 : decode cX12_findOffers 100 = .ok (.aload_n 0, 1) := by decide +kernel
theorem dX12_findOffers_101 : decode cX12_findOffers 101 = .ok (.getfield 93, 3) := by decide +kernel
theorem dX12_findOffers_104 : decode cX12_findOffers 104 = .ok (.aload_n 0, 1) := by decide +kernel
theorem dX12_findOffers_105 : decode cX12_findOffers 105 = .ok (.getfield 320, 3) := by decide +kernel
theorem dX12_findOffers_108 : decode cX12_findOffers 108 = .ok (.bipush 20, 2) := by decide +kernel
theorem dX12_findOffers_110 : decode cX12_findOffers 110 = .ok (.iload_n 1, 1) := by decide +kernel
theorem dX12_findOffers_111 : decode cX12_findOffers 111 = .ok (.imul, 1) := by decide +kernel
theorem dX12_findOffers_112 : decode cX12_findOffers 112 = .ok (.iload_n 2, 1) := by decide +kernel
theorem dX12_findOffers_113 : decode cX12_findOffers 113 = .ok (.iadd, 1) := by decide +kernel
theorem dX12_findOffers_114 : decode cX12_findOffers 114 = .ok (.iastore, 1) := by decide +kernel
theorem dX12_findOffers_115 : decode cX12_findOffers 115 = .ok (.aload_n 0, 1) := by decide +kernel
theorem dX12_findOffers_116 : decode cX12_findOffers 116 = .ok (.dup, 1) := by decide +kernel
theorem dX12_findOffers_117 : decode cX12_findOffers 117 = .ok (.getfield 320, 3) := by decide +kernel
theorem dX12_findOffers_120 : decode cX12_findOffers 120 = .ok (.iconst 1, 1) := by decide +kernel
theorem dX12_findOffers_121 : decode cX12_findOffers 121 = .ok (.iadd, 1) := by decide +kernel
theorem dX12_findOffers_122 : decode cX12_findOffers 122 = .ok (.putfield 320, 3) := by decide +kernel
theorem dX12_findOffers_125 : decode cX12_findOffers 125 = .ok (.iinc 2 1, 3) := by decide +kernel
theorem dX12_findOffers_128 : decode cX12_findOffers 128 = .ok (.goto (-113), 3) := by decide +kernel
theorem dX12_findOffers_131 : decode cX12_findOffers 131 = .ok (.iinc 1 1, 3) := by decide +kernel
theorem dX12_findOffers_134 : decode cX12_findOffers 134 = .ok (.goto (-127), 3) := by decide +kernel
theorem dX12_findOffers_137 : decode cX12_findOffers 137 = .ok (.return_, 1) := by decide +kernel
theorem dX12_offered_0 : decode cX12_offered 0 = .ok (.aload_n 0, 1) := by decide +kernel
theorem dX12_offered_1 : decode cX12_offered 1 = .ok (.iconst 0, 1) := by decide +kernel
theorem dX12_offered_2 : decode cX12_offered 2 = .ok (.putfield 1, 3) := by decide +kernel
theorem dX12_offered_5 : decode cX12_offered 5 = .ok (.aload_n 0, 1) := by decide +kernel
theorem dX12_offered_6 : decode cX12_offered 6 = .ok (.invokevirtual 334, 3) := by decide +kernel
theorem dX12_offered_9 : decode cX12_offered 9 = .ok (.iload_n 1, 1) := by decide +kernel
theorem dX12_offered_10 : decode cX12_offered 10 = .ok (.iconst 0, 1) := by decide +kernel
theorem dX12_offered_11 : decode cX12_offered 11 = .ok (.aload_n 0, 1) := by decide +kernel
theorem dX12_offered_12 : decode cX12_offered 12 = .ok (.getfield 320, 3) := by decide +kernel
theorem dX12_offered_15 : decode cX12_offered 15 = .ok (.iconst 1, 1) := by decide +kernel
theorem dX12_offered_16 : decode cX12_offered 16 = .ok (.isub, 1) := by decide +kernel
theorem dX12_offered_17 : decode cX12_offered 17 = .ok (.invokestatic 277, 3) := by decide +kernel
theorem dX12_offered_20 : decode cX12_offered 20 = .ok (.ifCond .eq 12, 3) := by decide +kernel
theorem dX12_offered_23 : decode cX12_offered 23 = .ok (.aload_n 0, 1) := by decide +kernel
theorem dX12_offered_24 : decode cX12_offered 24 = .ok (.getfield 93, 3) := by decide +kernel
theorem dX12_offered_27 : decode cX12_offered 27 = .ok (.iload_n 1, 1) := by decide +kernel
theorem dX12_offered_28 : decode cX12_offered 28 = .ok (.iaload, 1) := by decide +kernel
theorem dX12_offered_29 : decode cX12_offered 29 = .ok (.goto 4, 3) := by decide +kernel
theorem dX12_offered_32 : decode cX12_offered 32 = .ok (.iconst (-1), 1) := by decide +kernel
theorem dX12_offered_33 : decode cX12_offered 33 = .ok (.ireturn, 1) := by decide +kernel
theorem dX12_lets_0 : decode cX12_lets 0 = .ok (.aload_n 0, 1) := by decide +kernel
