theorem dX10_init_0 : decode cX10_init 0 = .ok (.aload_n 0, 1) := by decide +kernel
theorem dX10_init_1 : decode cX10_init 1 = .ok (.invokespecial 1, 3) := by decide +kernel
theorem dX10_init_4 : decode cX10_init 4 = .ok (.aload_n 0, 1) := by decide +kernel
theorem dX10_init_5 : decode cX10_init 5 = .ok (.iconst (-1), 1) := by decide +kernel
theorem dX10_init_6 : decode cX10_init 6 = .ok (.putfield 9, 3) := by decide +kernel
theorem dX10_init_9 : decode cX10_init 9 = .ok (.aload_n 0, 1) := by decide +kernel
theorem dX10_init_10 : decode cX10_init 10 = .ok (.sipush 500, 3) := by decide +kernel
theorem dX10_init_13 : decode cX10_init 13 = .ok (.newarray .int, 2) := by decide +kernel
theorem dX10_init_15 : decode cX10_init 15 = .ok (.putfield 13, 3) := by decide +kernel
theorem dX10_init_18 : decode cX10_init 18 = .ok (.aload_n 0, 1) := by decide +kernel
theorem dX10_init_19 : decode cX10_init 19 = .ok (.iconst 2, 1) := by decide +kernel
theorem dX10_init_20 : decode cX10_init 20 = .ok (.newarray .int, 2) := by decide +kernel
theorem dX10_init_22 : decode cX10_init 22 = .ok (.putfield 17, 3) := by decide +kernel
theorem dX10_init_25 : decode cX10_init 25 = .ok (.aload_n 0, 1) := by decide +kernel
theorem dX10_init_26 : decode cX10_init 26 = .ok (.iconst 2, 1) := by decide +kernel
theorem dX10_init_27 : decode cX10_init 27 = .ok (.newarray .int, 2) := by decide +kernel
theorem dX10_init_29 : decode cX10_init 29 = .ok (.putfield 20, 3) := by decide +kernel
theorem dX10_init_32 : decode cX10_init 32 = .ok (.aload_n 0, 1) := by decide +kernel
theorem dX10_init_33 : decode cX10_init 33 = .ok (.bipush 10, 2) := by decide +kernel
theorem dX10_init_35 : decode cX10_init 35 = .ok (.newarray .long, 2) := by decide +kernel
theorem dX10_init_37 : decode cX10_init 37 = .ok (.putfield 23, 3) := by decide +kernel
theorem dX10_init_40 : decode cX10_init 40 = .ok (.aload_n 0, 1) := by decide +kernel
theorem dX10_init_41 : decode cX10_init 41 = .ok (.bipush 10, 2) := by decide +kernel
theorem dX10_init_43 : decode cX10_init 43 = .ok (.newarray .long, 2) := by decide +kernel
theorem dX10_init_45 : decode cX10_init 45 = .ok (.putfield 27, 3) := by decide +kernel
theorem dX10_init_48 : decode cX10_init 48 = .ok (.aload_n 0, 1) := by decide +kernel
theorem dX10_init_49 : decode cX10_init 49 = .ok (.bipush 6, 2) := by decide +kernel
theorem dX10_init_51 : decode cX10_init 51 = .ok (.bipush 8, 2) := by decide +kernel
theorem dX10_init_53 : decode cX10_init 53 = .ok (.multianewarray 30 2, 4) := by decide +kernel
theorem dX10_init_57 : decode cX10_init 57 = .ok (.putfield 32, 3) := by decide +kernel
theorem dX10_init_60 : decode cX10_init 60 = .ok (.aload_n 0, 1) := by decide +kernel
theorem dX10_init_61 : decode cX10_init 61 = .ok (.bipush 6, 2) := by decide +kernel
theorem dX10_init_63 : decode cX10_init 63 = .ok (.bipush 8, 2) := by decide +kernel
theorem dX10_init_65 : decode cX10_init 65 = .ok (.multianewarray 30 2, 4) := by decide +kernel
theorem dX10_init_69 : decode cX10_init 69 = .ok (.putfield 35, 3) := by decide +kernel
theorem dX10_init_72 : decode cX10_init 72 = .ok (.aload_n 0, 1) := by decide +kernel
theorem dX10_init_73 : decode cX10_init 73 = .ok (.bipush 6, 2) := by decide +kernel
theorem dX10_init_75 : decode cX10_init 75 = .ok (.newarray .int, 2) := by decide +kernel
theorem dX10_init_77 : decode cX10_init 77 = .ok (.putfield 38, 3) := by decide +kernel
theorem dX10_init_80 : decode cX10_init 80 = .ok (.aload_n 0, 1) := by decide +kernel
theorem dX10_init_81 : decode cX10_init 81 = .ok (.bipush 6, 2) := by decide +kernel
theorem dX10_init_83 : decode cX10_init 83 = .ok (.newarray .int, 2) := by decide +kernel
theorem dX10_init_85 : decode cX10_init 85 = .ok (.putfield 41, 3) := by decide +kernel
theorem dX10_init_88 : decode cX10_init 88 = .ok (.aload_n 0, 1) := by decide +kernel
theorem dX10_init_89 : decode cX10_init 89 = .ok (.bipush 10, 2) := by decide +kernel
theorem dX10_init_91 : decode cX10_init 91 = .ok (.newarray .int, 2) := by decide +kernel
theorem dX10_init_93 : decode cX10_init 93 = .ok (.putfield 44, 3) := by decide +kernel
theorem dX10_init_96 : decode cX10_init 96 = .ok (.aload_n 0, 1) := by decide +kernel
theorem dX10_init_97 : decode cX10_init 97 = .ok (.bipush 10, 2) := by decide +kernel
theorem dX10_init_99 : decode cX10_init 99 = .ok (.newarray .int, 2) := by decide +kernel
theorem dX10_init_101 : decode cX10_init 101 = .ok (.putfield 47, 3) := by decide +kernel
theorem dX10_init_104 : decode cX10_init 104 = .ok (.aload_n 0, 1) := by decide +kernel
theorem dX10_init_105 : decode cX10_init 105 = .ok (.bipush 16, 2) := by decide +kernel
theorem dX10_init_107 : decode cX10_init 107 = .ok (.newarray .long, 2) := by decide +kernel
theorem dX10_init_109 : decode cX10_init 109 = .ok (.putfield 50, 3) := by decide +kernel
theorem dX10_init_112 : decode cX10_init 112 = .ok (.aload_n 0, 1) := by decide +kernel
theorem dX10_init_113 : decode cX10_init 113 = .ok (.bipush 16, 2) := by decide +kernel
theorem dX10_init_115 : decode cX10_init 115 = .ok (.newarray .int, 2) := by decide +kernel
theorem dX10_init_117 : decode cX10_init 117 = .ok (.putfield 53, 3) := by decide +kernel
theorem dX10_init_120 : decode cX10_init 120 = .ok (.aload_n 0, 1) := by decide +kernel
theorem dX10_init_121 : decode cX10_init 121 = .ok (.iconst (-1), 1) := by decide +kernel
theorem dX10_init_122 : decode cX10_init 122 = .ok (.putfield 56, 3) := by decide +kernel
theorem dX10_init_125 : decode cX10_init 125 = .ok (.aload_n 0, 1) := by decide +kernel
theorem dX10_init_126 : decode cX10_init 126 = .ok (.bipush 40, 2) := by decide +kernel
theorem dX10_init_128 : decode cX10_init 128 = .ok (.newarray .int, 2) := by decide +kernel
theorem dX10_init_130 : decode cX10_init 130 = .ok (.putfield 59, 3) := by decide +kernel
theorem dX10_init_133 : decode cX10_init 133 = .ok (.aload_n 0, 1) := by decide +kernel
theorem dX10_init_134 : decode cX10_init 134 = .ok (.bipush 8, 2) := by decide +kernel
theorem dX10_init_136 : decode cX10_init 136 = .ok (.newarray .long, 2) := by decide +kernel
theorem dX10_init_138 : decode cX10_init 138 = .ok (.putfield 62, 3) := by decide +kernel
theorem dX10_init_141 : decode cX10_init 141 = .ok (.aload_n 0, 1) := by decide +kernel
theorem dX10_init_142 : decode cX10_init 142 = .ok (.iconst 3, 1) := by decide +kernel
theorem dX10_init_143 : decode cX10_init 143 = .ok (.bipush 60, 2) := by decide +kernel
theorem dX10_init_145 : decode cX10_init 145 = .ok (.multianewarray 65 2, 4) := by decide +kernel
theorem dX10_init_149 : decode cX10_init 149 = .ok (.putfield 67, 3) := by decide +kernel
theorem dX10_init_152 : decode cX10_init 152 = .ok (.aload_n 0, 1) := by decide +kernel
theorem dX10_init_153 : decode cX10_init 153 = .ok (.bipush 32, 2) := by decide +kernel
theorem dX10_init_155 : decode cX10_init 155 = .ok (.newarray .long, 2) := by decide +kernel
theorem dX10_init_157 : decode cX10_init 157 = .ok (.putfield 70, 3) := by decide +kernel
theorem dX10_init_160 : decode cX10_init 160 = .ok (.aload_n 0, 1) := by decide +kernel
theorem dX10_init_161 : decode cX10_init 161 = .ok (.bipush 64, 2) := by decide +kernel
theorem dX10_init_163 : decode cX10_init 163 = .ok (.newarray .int, 2) := by decide +kernel
theorem dX10_init_165 : decode cX10_init 165 = .ok (.putfield 73, 3) := by decide +kernel
theorem dX10_init_168 : decode cX10_init 168 = .ok (.aload_n 0, 1) := by decide +kernel
theorem dX10_init_169 : decode cX10_init 169 = .ok (.bipush 64, 2) := by decide +kernel
theorem dX10_init_171 : decode cX10_init 171 = .ok (.newarray .int, 2) := by decide +kernel
theorem dX10_init_173 : decode cX10_init 173 = .ok (.putfield 76, 3) := by decide +kernel
theorem dX10_init_176 : decode cX10_init 176 = .ok (.aload_n 0, 1) := by decide +kernel
theorem dX10_init_177 : decode cX10_init 177 = .ok (.bipush 32, 2) := by decide +kernel
theorem dX10_init_179 : decode cX10_init 179 = .ok (.newarray .int, 2) := by decide +kernel
theorem dX10_init_181 : decode cX10_init 181 = .ok (.putfield 79, 3) := by decide +kernel
theorem dX10_init_184 : decode cX10_init 184 = .ok (.aload_n 0, 1) := by decide +kernel
theorem dX10_init_185 : decode cX10_init 185 = .ok (.bipush 32, 2) := by decide +kernel
theorem dX10_init_187 : decode cX10_init 187 = .ok (.newarray .boolean, 2) := by decide +kernel
theorem dX10_init_189 : decode cX10_init 189 = .ok (.putfield 82, 3) := by decide +kernel
theorem dX10_init_192 : decode cX10_init 192 = .ok (.aload_n 0, 1) := by decide +kernel
theorem dX10_init_193 : decode cX10_init 193 = .ok (.bipush 64, 2) := by decide +kernel
theorem dX10_init_195 : decode cX10_init 195 = .ok (.newarray .int, 2) := by decide +kernel
theorem dX10_init_197 : decode cX10_init 197 = .ok (.putfield 86, 3) := by decide +kernel
theorem dX10_init_200 : decode cX10_init 200 = .ok (.aload_n 0, 1) := by decide +kernel
theorem dX10_init_201 : decode cX10_init 201 = .ok (.bipush 64, 2) := by decide +kernel
theorem dX10_init_203 : decode cX10_init 203 = .ok (.newarray .int, 2) := by decide +kernel
theorem dX10_init_205 : decode cX10_init 205 = .ok (.putfield 89, 3) := by decide +kernel
theorem dX10_init_208 : decode cX10_init 208 = .ok (.aload_n 0, 1) := by decide +kernel
theorem dX10_init_209 : decode cX10_init 209 = .ok (.bipush 64, 2) := by decide +kernel
theorem dX10_init_211 : decode cX10_init 211 = .ok (.newarray .int, 2) := by decide +kernel
theorem dX10_init_213 : decode cX10_init 213 = .ok (.putfield 92, 3) := by decide +kernel
theorem dX10_init_216 : decode cX10_init 216 = .ok (.aload_n 0, 1) := by decide +kernel
theorem dX10_init_217 : decode cX10_init 217 = .ok (.bipush 8, 2) := by decide +kernel
theorem dX10_init_219 : decode cX10_init 219 = .ok (.newarray .int, 2) := by decide +kernel
theorem dX10_init_221 : decode cX10_init 221 = .ok (.putfield 95, 3) := by decide +kernel
theorem dX10_init_224 : decode cX10_init 224 = .ok (.aload_n 0, 1) := by decide +kernel
theorem dX10_init_225 : decode cX10_init 225 = .ok (.bipush 16, 2) := by decide +kernel
theorem dX10_init_227 : decode cX10_init 227 = .ok (.newarray .int, 2) := by decide +kernel
theorem dX10_init_229 : decode cX10_init 229 = .ok (.putfield 98, 3) := by decide +kernel
theorem dX10_init_232 : decode cX10_init 232 = .ok (.aload_n 0, 1) := by decide +kernel
theorem dX10_init_233 : decode cX10_init 233 = .ok (.bipush 10, 2) := by decide +kernel
theorem dX10_init_235 : decode cX10_init 235 = .ok (.newarray .int, 2) := by decide +kernel
theorem dX10_init_237 : decode cX10_init 237 = .ok (.putfield 101, 3) := by decide +kernel
theorem dX10_init_240 : decode cX10_init 240 = .ok (.aload_n 0, 1) := by decide +kernel
theorem dX10_init_241 : decode cX10_init 241 = .ok (.bipush 10, 2) := by decide +kernel
theorem dX10_init_243 : decode cX10_init 243 = .ok (.newarray .int, 2) := by decide +kernel
theorem dX10_init_245 : decode cX10_init 245 = .ok (.putfield 104, 3) := by decide +kernel
theorem dX10_init_248 : decode cX10_init 248 = .ok (.aload_n 0, 1) := by decide +kernel
theorem dX10_init_249 : decode cX10_init 249 = .ok (.bipush 8, 2) := by decide +kernel
theorem dX10_init_251 : decode cX10_init 251 = .ok (.bipush 8, 2) := by decide +kernel
theorem dX10_init_253 : decode cX10_init 253 = .ok (.multianewarray 107 2, 4) := by decide +kernel
theorem dX10_init_257 : decode cX10_init 257 = .ok (.putfield 109, 3) := by decide +kernel
theorem dX10_init_260 : decode cX10_init 260 = .ok (.iconst 0, 1) := by decide +kernel
theorem dX10_init_261 : decode cX10_init 261 = .ok (.istore_n 1, 1) := by decide +kernel
theorem dX10_init_262 : decode cX10_init 262 = .ok (.iload_n 1, 1) := by decide +kernel
theorem dX10_init_263 : decode cX10_init 263 = .ok (.bipush 10, 2) := by decide +kernel
theorem dX10_init_265 : decode cX10_init 265 = .ok (.if_icmp .ge 16, 3) := by decide +kernel
theorem dX10_init_268 : decode cX10_init 268 = .ok (.aload_n 0, 1) := by decide +kernel
theorem dX10_init_269 : decode cX10_init 269 = .ok (.getfield 47, 3) := by decide +kernel
theorem dX10_init_272 : decode cX10_init 272 = .ok (.iload_n 1, 1) := by decide +kernel
theorem dX10_init_273 : decode cX10_init 273 = .ok (.iconst 4, 1) := by decide +kernel
theorem dX10_init_274 : decode cX10_init 274 = .ok (.iastore, 1) := by decide +kernel
theorem dX10_init_275 : decode cX10_init 275 = .ok (.iinc 1 1, 3) := by decide +kernel
theorem dX10_init_278 : decode cX10_init 278 = .ok (.goto (-16), 3) := by decide +kernel
theorem dX10_init_281 : decode cX10_init 281 = .ok (.return_, 1) := by decide +kernel
theorem dX10_thrown_0 : decode cX10_thrown 0 = .ok (.aload_n 0, 1) := by decide +kernel
theorem dX10_thrown_1 : decode cX10_thrown 1 = .ok (.getfield 112, 3) := by decide +kernel
theorem dX10_thrown_4 : decode cX10_thrown 4 = .ok (.ireturn, 1) := by decide +kernel
theorem dX10_bad_0 : decode cX10_bad 0 = .ok (.iload_n 1, 1) := by decide +kernel
theorem dX10_bad_1 : decode cX10_bad 1 = .ok (.ifCond .eq 15, 3) := by decide +kernel
theorem dX10_bad_4 : decode cX10_bad 4 = .ok (.aload_n 0, 1) := by decide +kernel
theorem dX10_bad_5 : decode cX10_bad 5 = .ok (.getfield 112, 3) := by decide +kernel
theorem dX10_bad_8 : decode cX10_bad 8 = .ok (.ifCond .ne 8, 3) := by decide +kernel
theorem dX10_bad_11 : decode cX10_bad 11 = .ok (.aload_n 0, 1) := by decide +kernel
theorem dX10_bad_12 : decode cX10_bad 12 = .ok (.iload_n 2, 1) := by decide +kernel
theorem dX10_bad_13 : decode cX10_bad 13 = .ok (.putfield 112, 3) := by decide +kernel
theorem dX10_bad_16 : decode cX10_bad 16 = .ok (.aload_n 0, 1) := by decide +kernel
theorem dX10_bad_17 : decode cX10_bad 17 = .ok (.getfield 112, 3) := by decide +kernel
theorem dX10_bad_20 : decode cX10_bad 20 = .ok (.ifCond .eq 7, 3) := by decide +kernel
theorem dX10_bad_23 : decode cX10_bad 23 = .ok (.iconst 1, 1) := by decide +kernel
theorem dX10_bad_24 : decode cX10_bad 24 = .ok (.goto 4, 3) := by decide +kernel
theorem dX10_bad_27 : decode cX10_bad 27 = .ok (.iconst 0, 1) := by decide +kernel
theorem dX10_bad_28 : decode cX10_bad 28 = .ok (.ireturn, 1) := by decide +kernel
theorem dX10_in_0 : decode cX10_in 0 = .ok (.iload_n 0, 1) := by decide +kernel
theorem dX10_in_1 : decode cX10_in 1 = .ok (.iload_n 1, 1) := by decide +kernel
theorem dX10_in_2 : decode cX10_in 2 = .ok (.if_icmp .lt 12, 3) := by decide +kernel
theorem dX10_in_5 : decode cX10_in 5 = .ok (.iload_n 0, 1) := by decide +kernel
theorem dX10_in_6 : decode cX10_in 6 = .ok (.iload_n 2, 1) := by decide +kernel
theorem dX10_in_7 : decode cX10_in 7 = .ok (.if_icmp .gt 7, 3) := by decide +kernel
theorem dX10_in_10 : decode cX10_in 10 = .ok (.iconst 1, 1) := by decide +kernel
theorem dX10_in_11 : decode cX10_in 11 = .ok (.goto 4, 3) := by decide +kernel
theorem dX10_in_14 : decode cX10_in 14 = .ok (.iconst 0, 1) := by decide +kernel
theorem dX10_in_15 : decode cX10_in 15 = .ok (.ireturn, 1) := by decide +kernel
theorem dX10_amount_0 : decode cX10_amount 0 = .ok (.iload_n 0, 1) := by decide +kernel
theorem dX10_amount_1 : decode cX10_amount 1 = .ok (.ifCond .ge 8, 3) := by decide +kernel
theorem dX10_amount_4 : decode cX10_amount 4 = .ok (.iload_n 0, 1) := by decide +kernel
theorem dX10_amount_5 : decode cX10_amount 5 = .ok (.ineg, 1) := by decide +kernel
theorem dX10_amount_6 : decode cX10_amount 6 = .ok (.goto 4, 3) := by decide +kernel
theorem dX10_amount_9 : decode cX10_amount 9 = .ok (.iload_n 0, 1) := by decide +kernel
theorem dX10_amount_10 : decode cX10_amount 10 = .ok (.ireturn, 1) := by decide +kernel
theorem dX10_feed_0 : decode cX10_feed 0 = .ok (.aload_n 0, 1) := by decide +kernel
theorem dX10_feed_1 : decode cX10_feed 1 = .ok (.iconst 0, 1) := by decide +kernel
theorem dX10_feed_2 : decode cX10_feed 2 = .ok (.putfield 112, 3) := by decide +kernel
theorem dX10_feed_5 : decode cX10_feed 5 = .ok (.aload_n 0, 1) := by decide +kernel
theorem dX10_feed_6 : decode cX10_feed 6 = .ok (.getfield 115, 3) := by decide +kernel
theorem dX10_feed_9 : decode cX10_feed 9 = .ok (.bipush 20, 2) := by decide +kernel
theorem dX10_feed_11 : decode cX10_feed 11 = .ok (.iadd, 1) := by decide +kernel
theorem dX10_feed_12 : decode cX10_feed 12 = .ok (.sipush 500, 3) := by decide +kernel
theorem dX10_feed_15 : decode cX10_feed 15 = .ok (.if_icmp .le 5, 3) := by decide +kernel
theorem dX10_feed_18 : decode cX10_feed 18 = .ok (.iconst (-1), 1) := by decide +kernel
theorem dX10_feed_19 : decode cX10_feed 19 = .ok (.ireturn, 1) := by decide +kernel
theorem dX10_feed_20 : decode cX10_feed 20 = .ok (.iconst 0, 1) := by decide +kernel
theorem dX10_feed_21 : decode cX10_feed 21 = .ok (.istore 6, 2) := by decide +kernel
theorem dX10_feed_23 : decode cX10_feed 23 = .ok (.iload 6, 2) := by decide +kernel
theorem dX10_feed_25 : decode cX10_feed 25 = .ok (.bipush 20, 2) := by decide +kernel
theorem dX10_feed_27 : decode cX10_feed 27 = .ok (.if_icmp .ge 93, 3) := by decide +kernel
theorem dX10_feed_30 : decode cX10_feed 30 = .ok (.iload 6, 2) := by decide +kernel
theorem dX10_feed_32 : decode cX10_feed 32 = .ok (.iconst 4, 1) := by decide +kernel
theorem dX10_feed_33 : decode cX10_feed 33 = .ok (.if_icmp .ge 7, 3) := by decide +kernel
theorem dX10_feed_36 : decode cX10_feed 36 = .ok (.iload_n 1, 1) := by decide +kernel
theorem dX10_feed_37 : decode cX10_feed 37 = .ok (.goto 39, 3) := by decide +kernel
theorem dX10_feed_40 : decode cX10_feed 40 = .ok (.iload 6, 2) := by decide +kernel
theorem dX10_feed_42 : decode cX10_feed 42 = .ok (.bipush 8, 2) := by decide +kernel
theorem dX10_feed_44 : decode cX10_feed 44 = .ok (.if_icmp .ge 7, 3) := by decide +kernel
theorem dX10_feed_47 : decode cX10_feed 47 = .ok (.iload_n 2, 1) := by decide +kernel
theorem dX10_feed_48 : decode cX10_feed 48 = .ok (.goto 28, 3) := by decide +kernel
theorem dX10_feed_51 : decode cX10_feed 51 = .ok (.iload 6, 2) := by decide +kernel
theorem dX10_feed_53 : decode cX10_feed 53 = .ok (.bipush 12, 2) := by decide +kernel
theorem dX10_feed_55 : decode cX10_feed 55 = .ok (.if_icmp .ge 7, 3) := by decide +kernel
theorem dX10_feed_58 : decode cX10_feed 58 = .ok (.iload_n 3, 1) := by decide +kernel
theorem dX10_feed_59 : decode cX10_feed 59 = .ok (.goto 17, 3) := by decide +kernel
theorem dX10_feed_62 : decode cX10_feed 62 = .ok (.iload 6, 2) := by decide +kernel
theorem dX10_feed_64 : decode cX10_feed 64 = .ok (.bipush 16, 2) := by decide +kernel
theorem dX10_feed_66 : decode cX10_feed 66 = .ok (.if_icmp .ge 8, 3) := by decide +kernel
theorem dX10_feed_69 : decode cX10_feed 69 = .ok (.iload 4, 2) := by decide +kernel
theorem dX10_feed_71 : decode cX10_feed 71 = .ok (.goto 5, 3) := by decide +kernel
theorem dX10_feed_74 : decode cX10_feed 74 = .ok (.iload 5, 2) := by decide +kernel
theorem dX10_feed_76 : decode cX10_feed 76 = .ok (.istore 7, 2) := by decide +kernel
theorem dX10_feed_78 : decode cX10_feed 78 = .ok (.aload_n 0, 1) := by decide +kernel
theorem dX10_feed_79 : decode cX10_feed 79 = .ok (.getfield 13, 3) := by decide +kernel
theorem dX10_feed_82 : decode cX10_feed 82 = .ok (.aload_n 0, 1) := by decide +kernel
theorem dX10_feed_83 : decode cX10_feed 83 = .ok (.getfield 115, 3) := by decide +kernel
theorem dX10_feed_86 : decode cX10_feed 86 = .ok (.iload 7, 2) := by decide +kernel
theorem dX10_feed_88 : decode cX10_feed 88 = .ok (.bipush 24, 2) := by decide +kernel
theorem dX10_feed_90 : decode cX10_feed 90 = .ok (.bipush 8, 2) := by decide +kernel
theorem dX10_feed_92 : decode cX10_feed 92 = .ok (.iload 6, 2) := by decide +kernel
theorem dX10_feed_94 : decode cX10_feed 94 = .ok (.iconst 4, 1) := by decide +kernel
theorem dX10_feed_95 : decode cX10_feed 95 = .ok (.irem, 1) := by decide +kernel
theorem dX10_feed_96 : decode cX10_feed 96 = .ok (.imul, 1) := by decide +kernel
theorem dX10_feed_97 : decode cX10_feed 97 = .ok (.isub, 1) := by decide +kernel
theorem dX10_feed_98 : decode cX10_feed 98 = .ok (.ishr, 1) := by decide +kernel
theorem dX10_feed_99 : decode cX10_feed 99 = .ok (.sipush 255, 3) := by decide +kernel
theorem dX10_feed_102 : decode cX10_feed 102 = .ok (.iand, 1) := by decide +kernel
theorem dX10_feed_103 : decode cX10_feed 103 = .ok (.iastore, 1) := by decide +kernel
theorem dX10_feed_104 : decode cX10_feed 104 = .ok (.aload_n 0, 1) := by decide +kernel
theorem dX10_feed_105 : decode cX10_feed 105 = .ok (.dup, 1) := by decide +kernel
theorem dX10_feed_106 : decode cX10_feed 106 = .ok (.getfield 115, 3) := by decide +kernel
theorem dX10_feed_109 : decode cX10_feed 109 = .ok (.iconst 1, 1) := by decide +kernel
theorem dX10_feed_110 : decode cX10_feed 110 = .ok (.iadd, 1) := by decide +kernel
theorem dX10_feed_111 : decode cX10_feed 111 = .ok (.putfield 115, 3) := by decide +kernel
theorem dX10_feed_114 : decode cX10_feed 114 = .ok (.iinc 6 1, 3) := by decide +kernel
theorem dX10_feed_117 : decode cX10_feed 117 = .ok (.goto (-94), 3) := by decide +kernel
theorem dX10_feed_120 : decode cX10_feed 120 = .ok (.aload_n 0, 1) := by decide +kernel
theorem dX10_feed_121 : decode cX10_feed 121 = .ok (.getfield 115, 3) := by decide +kernel
theorem dX10_feed_124 : decode cX10_feed 124 = .ok (.ireturn, 1) := by decide +kernel
theorem dX10_byteAt_0 : decode cX10_byteAt 0 = .ok (.iload_n 1, 1) := by decide +kernel
theorem dX10_byteAt_1 : decode cX10_byteAt 1 = .ok (.aload_n 0, 1) := by decide +kernel
theorem dX10_byteAt_2 : decode cX10_byteAt 2 = .ok (.getfield 118, 3) := by decide +kernel
theorem dX10_byteAt_5 : decode cX10_byteAt 5 = .ok (.if_icmp .lt 7, 3) := by decide +kernel
theorem dX10_byteAt_8 : decode cX10_byteAt 8 = .ok (.iconst (-1), 1) := by decide +kernel
theorem dX10_byteAt_9 : decode cX10_byteAt 9 = .ok (.goto 9, 3) := by decide +kernel
theorem dX10_byteAt_12 : decode cX10_byteAt 12 = .ok (.aload_n 0, 1) := by decide +kernel
theorem dX10_byteAt_13 : decode cX10_byteAt 13 = .ok (.getfield 13, 3) := by decide +kernel
theorem dX10_byteAt_16 : decode cX10_byteAt 16 = .ok (.iload_n 1, 1) := by decide +kernel
theorem dX10_byteAt_17 : decode cX10_byteAt 17 = .ok (.iaload, 1) := by decide +kernel
theorem dX10_byteAt_18 : decode cX10_byteAt 18 = .ok (.ireturn, 1) := by decide +kernel
theorem dX10_blanks_0 : decode cX10_blanks 0 = .ok (.aload_n 0, 1) := by decide +kernel
theorem dX10_blanks_1 : decode cX10_blanks 1 = .ok (.aload_n 0, 1) := by decide +kernel
theorem dX10_blanks_2 : decode cX10_blanks 2 = .ok (.getfield 121, 3) := by decide +kernel
theorem dX10_blanks_5 : decode cX10_blanks 5 = .ok (.invokevirtual 124, 3) := by decide +kernel
theorem dX10_blanks_8 : decode cX10_blanks 8 = .ok (.bipush 32, 2) := by decide +kernel
theorem dX10_blanks_10 : decode cX10_blanks 10 = .ok (.if_icmp .ne 16, 3) := by decide +kernel
theorem dX10_blanks_13 : decode cX10_blanks 13 = .ok (.aload_n 0, 1) := by decide +kernel
theorem dX10_blanks_14 : decode cX10_blanks 14 = .ok (.dup, 1) := by decide +kernel
theorem dX10_blanks_15 : decode cX10_blanks 15 = .ok (.getfield 121, 3) := by decide +kernel
theorem dX10_blanks_18 : decode cX10_blanks 18 = .ok (.iconst 1, 1) := by decide +kernel
theorem dX10_blanks_19 : decode cX10_blanks 19 = .ok (.iadd, 1) := by decide +kernel
theorem dX10_blanks_20 : decode cX10_blanks 20 = .ok (.putfield 121, 3) := by decide +kernel
theorem dX10_blanks_23 : decode cX10_blanks 23 = .ok (.goto (-23), 3) := by decide +kernel
theorem dX10_blanks_26 : decode cX10_blanks 26 = .ok (.return_, 1) := by decide +kernel
theorem dX10_wrong_0 : decode cX10_wrong 0 = .ok (.aload_n 0, 1) := by decide +kernel
theorem dX10_wrong_1 : decode cX10_wrong 1 = .ok (.getfield 128, 3) := by decide +kernel
theorem dX10_wrong_4 : decode cX10_wrong 4 = .ok (.ifCond .ne 13, 3) := by decide +kernel
theorem dX10_wrong_7 : decode cX10_wrong 7 = .ok (.aload_n 0, 1) := by decide +kernel
theorem dX10_wrong_8 : decode cX10_wrong 8 = .ok (.iload_n 1, 1) := by decide +kernel
theorem dX10_wrong_9 : decode cX10_wrong 9 = .ok (.putfield 128, 3) := by decide +kernel
theorem dX10_wrong_12 : decode cX10_wrong 12 = .ok (.aload_n 0, 1) := by decide +kernel
theorem dX10_wrong_13 : decode cX10_wrong 13 = .ok (.iload_n 2, 1) := by decide +kernel
theorem dX10_wrong_14 : decode cX10_wrong 14 = .ok (.putfield 131, 3) := by decide +kernel
theorem dX10_wrong_17 : decode cX10_wrong 17 = .ok (.return_, 1) := by decide +kernel
theorem dX10_isDigit_0 : decode cX10_isDigit 0 = .ok (.iload_n 0, 1) := by decide +kernel
theorem dX10_isDigit_1 : decode cX10_isDigit 1 = .ok (.bipush 48, 2) := by decide +kernel
theorem dX10_isDigit_3 : decode cX10_isDigit 3 = .ok (.if_icmp .lt 13, 3) := by decide +kernel
theorem dX10_isDigit_6 : decode cX10_isDigit 6 = .ok (.iload_n 0, 1) := by decide +kernel
theorem dX10_isDigit_7 : decode cX10_isDigit 7 = .ok (.bipush 57, 2) := by decide +kernel
theorem dX10_isDigit_9 : decode cX10_isDigit 9 = .ok (.if_icmp .gt 7, 3) := by decide +kernel
theorem dX10_isDigit_12 : decode cX10_isDigit 12 = .ok (.iconst 1, 1) := by decide +kernel
theorem dX10_isDigit_13 : decode cX10_isDigit 13 = .ok (.goto 4, 3) := by decide +kernel
theorem dX10_isDigit_16 : decode cX10_isDigit 16 = .ok (.iconst 0, 1) := by decide +kernel
theorem dX10_isDigit_17 : decode cX10_isDigit 17 = .ok (.ireturn, 1) := by decide +kernel
theorem dX10_numberHere_0 : decode cX10_numberHere 0 = .ok (.aload_n 0, 1) := by decide +kernel
theorem dX10_numberHere_1 : decode cX10_numberHere 1 = .ok (.getfield 128, 3) := by decide +kernel
theorem dX10_numberHere_4 : decode cX10_numberHere 4 = .ok (.ifCond .eq 5, 3) := by decide +kernel
theorem dX10_numberHere_7 : decode cX10_numberHere 7 = .ok (.iconst 0, 1) := by decide +kernel
theorem dX10_numberHere_8 : decode cX10_numberHere 8 = .ok (.ireturn, 1) := by decide +kernel
theorem dX10_numberHere_9 : decode cX10_numberHere 9 = .ok (.aload_n 0, 1) := by decide +kernel
theorem dX10_numberHere_10 : decode cX10_numberHere 10 = .ok (.invokevirtual 134, 3) := by decide +kernel
theorem dX10_numberHere_13 : decode cX10_numberHere 13 = .ok (.aload_n 0, 1) := by decide +kernel
theorem dX10_numberHere_14 : decode cX10_numberHere 14 = .ok (.getfield 121, 3) := by decide +kernel
theorem dX10_numberHere_17 : decode cX10_numberHere 17 = .ok (.istore_n 3, 1) := by decide +kernel
theorem dX10_numberHere_18 : decode cX10_numberHere 18 = .ok (.iconst 0, 1) := by decide +kernel
theorem dX10_numberHere_19 : decode cX10_numberHere 19 = .ok (.istore 4, 2) := by decide +kernel
theorem dX10_numberHere_21 : decode cX10_numberHere 21 = .ok (.aload_n 0, 1) := by decide +kernel
theorem dX10_numberHere_22 : decode cX10_numberHere 22 = .ok (.aload_n 0, 1) := by decide +kernel
theorem dX10_numberHere_23 : decode cX10_numberHere 23 = .ok (.getfield 121, 3) := by decide +kernel
theorem dX10_numberHere_26 : decode cX10_numberHere 26 = .ok (.invokevirtual 124, 3) := by decide +kernel
theorem dX10_numberHere_29 : decode cX10_numberHere 29 = .ok (.invokestatic 137, 3) := by decide +kernel
theorem dX10_numberHere_32 : decode cX10_numberHere 32 = .ok (.ifCond .ne 12, 3) := by decide +kernel
theorem dX10_numberHere_35 : decode cX10_numberHere 35 = .ok (.aload_n 0, 1) := by decide +kernel
theorem dX10_numberHere_36 : decode cX10_numberHere 36 = .ok (.iconst 1, 1) := by decide +kernel
theorem dX10_numberHere_37 : decode cX10_numberHere 37 = .ok (.aload_n 0, 1) := by decide +kernel
theorem dX10_numberHere_38 : decode cX10_numberHere 38 = .ok (.getfield 121, 3) := by decide +kernel
theorem dX10_numberHere_41 : decode cX10_numberHere 41 = .ok (.invokevirtual 141, 3) := by decide +kernel
theorem dX10_numberHere_44 : decode cX10_numberHere 44 = .ok (.aload_n 0, 1) := by decide +kernel
theorem dX10_numberHere_45 : decode cX10_numberHere 45 = .ok (.aload_n 0, 1) := by decide +kernel
theorem dX10_numberHere_46 : decode cX10_numberHere 46 = .ok (.getfield 121, 3) := by decide +kernel
theorem dX10_numberHere_49 : decode cX10_numberHere 49 = .ok (.invokevirtual 124, 3) := by decide +kernel
theorem dX10_numberHere_52 : decode cX10_numberHere 52 = .ok (.invokestatic 137, 3) := by decide +kernel
theorem dX10_numberHere_55 : decode cX10_numberHere 55 = .ok (.ifCond .eq 51, 3) := by decide +kernel
theorem dX10_numberHere_58 : decode cX10_numberHere 58 = .ok (.bipush 10, 2) := by decide +kernel
theorem dX10_numberHere_60 : decode cX10_numberHere 60 = .ok (.iload 4, 2) := by decide +kernel
theorem dX10_numberHere_62 : decode cX10_numberHere 62 = .ok (.imul, 1) := by decide +kernel
theorem dX10_numberHere_63 : decode cX10_numberHere 63 = .ok (.aload_n 0, 1) := by decide +kernel
theorem dX10_numberHere_64 : decode cX10_numberHere 64 = .ok (.aload_n 0, 1) := by decide +kernel
theorem dX10_numberHere_65 : decode cX10_numberHere 65 = .ok (.getfield 121, 3) := by decide +kernel
theorem dX10_numberHere_68 : decode cX10_numberHere 68 = .ok (.invokevirtual 124, 3) := by decide +kernel
theorem dX10_numberHere_71 : decode cX10_numberHere 71 = .ok (.iadd, 1) := by decide +kernel
theorem dX10_numberHere_72 : decode cX10_numberHere 72 = .ok (.bipush 48, 2) := by decide +kernel
theorem dX10_numberHere_74 : decode cX10_numberHere 74 = .ok (.isub, 1) := by decide +kernel
theorem dX10_numberHere_75 : decode cX10_numberHere 75 = .ok (.istore 4, 2) := by decide +kernel
theorem dX10_numberHere_77 : decode cX10_numberHere 77 = .ok (.iload 4, 2) := by decide +kernel
theorem dX10_numberHere_79 : decode cX10_numberHere 79 = .ok (.ldc 145, 2) := by decide +kernel
theorem dX10_numberHere_81 : decode cX10_numberHere 81 = .ok (.if_icmp .le 8, 3) := by decide +kernel
theorem dX10_numberHere_84 : decode cX10_numberHere 84 = .ok (.ldc 145, 2) := by decide +kernel
theorem dX10_numberHere_86 : decode cX10_numberHere 86 = .ok (.goto 5, 3) := by decide +kernel
theorem dX10_numberHere_89 : decode cX10_numberHere 89 = .ok (.iload 4, 2) := by decide +kernel
theorem dX10_numberHere_91 : decode cX10_numberHere 91 = .ok (.istore 4, 2) := by decide +kernel
theorem dX10_numberHere_93 : decode cX10_numberHere 93 = .ok (.aload_n 0, 1) := by decide +kernel
theorem dX10_numberHere_94 : decode cX10_numberHere 94 = .ok (.dup, 1) := by decide +kernel
theorem dX10_numberHere_95 : decode cX10_numberHere 95 = .ok (.getfield 121, 3) := by decide +kernel
theorem dX10_numberHere_98 : decode cX10_numberHere 98 = .ok (.iconst 1, 1) := by decide +kernel
theorem dX10_numberHere_99 : decode cX10_numberHere 99 = .ok (.iadd, 1) := by decide +kernel
theorem dX10_numberHere_100 : decode cX10_numberHere 100 = .ok (.putfield 121, 3) := by decide +kernel
theorem dX10_numberHere_103 : decode cX10_numberHere 103 = .ok (.goto (-59), 3) := by decide +kernel
theorem dX10_numberHere_106 : decode cX10_numberHere 106 = .ok (.iload 4, 2) := by decide +kernel
theorem dX10_numberHere_108 : decode cX10_numberHere 108 = .ok (.iload_n 1, 1) := by decide +kernel
theorem dX10_numberHere_109 : decode cX10_numberHere 109 = .ok (.iload_n 2, 1) := by decide +kernel
theorem dX10_numberHere_110 : decode cX10_numberHere 110 = .ok (.invokestatic 146, 3) := by decide +kernel
theorem dX10_numberHere_113 : decode cX10_numberHere 113 = .ok (.ifCond .ne 9, 3) := by decide +kernel
theorem dX10_numberHere_116 : decode cX10_numberHere 116 = .ok (.aload_n 0, 1) := by decide +kernel
theorem dX10_numberHere_117 : decode cX10_numberHere 117 = .ok (.iconst 2, 1) := by decide +kernel
theorem dX10_numberHere_118 : decode cX10_numberHere 118 = .ok (.iload_n 3, 1) := by decide +kernel
theorem dX10_numberHere_119 : decode cX10_numberHere 119 = .ok (.invokevirtual 141, 3) := by decide +kernel
theorem dX10_numberHere_122 : decode cX10_numberHere 122 = .ok (.aload_n 0, 1) := by decide +kernel
theorem dX10_numberHere_123 : decode cX10_numberHere 123 = .ok (.getfield 128, 3) := by decide +kernel
theorem dX10_numberHere_126 : decode cX10_numberHere 126 = .ok (.ifCond .ne 8, 3) := by decide +kernel
theorem dX10_numberHere_129 : decode cX10_numberHere 129 = .ok (.iload 4, 2) := by decide +kernel
theorem dX10_numberHere_131 : decode cX10_numberHere 131 = .ok (.goto 4, 3) := by decide +kernel
theorem dX10_numberHere_134 : decode cX10_numberHere 134 = .ok (.iconst 0, 1) := by decide +kernel
theorem dX10_numberHere_135 : decode cX10_numberHere 135 = .ok (.ireturn, 1) := by decide +kernel
theorem dX10_wordHere_0 : decode cX10_wordHere 0 = .ok (.aload_n 0, 1) := by decide +kernel
theorem dX10_wordHere_1 : decode cX10_wordHere 1 = .ok (.invokevirtual 134, 3) := by decide +kernel
theorem dX10_wordHere_4 : decode cX10_wordHere 4 = .ok (.iconst 0, 1) := by decide +kernel
theorem dX10_wordHere_5 : decode cX10_wordHere 5 = .ok (.istore_n 1, 1) := by decide +kernel
theorem dX10_wordHere_6 : decode cX10_wordHere 6 = .ok (.iconst 0, 1) := by decide +kernel
theorem dX10_wordHere_7 : decode cX10_wordHere 7 = .ok (.istore_n 2, 1) := by decide +kernel
theorem dX10_wordHere_8 : decode cX10_wordHere 8 = .ok (.aload_n 0, 1) := by decide +kernel
theorem dX10_wordHere_9 : decode cX10_wordHere 9 = .ok (.aload_n 0, 1) := by decide +kernel
theorem dX10_wordHere_10 : decode cX10_wordHere 10 = .ok (.getfield 121, 3) := by decide +kernel
theorem dX10_wordHere_13 : decode cX10_wordHere 13 = .ok (.iload_n 2, 1) := by decide +kernel
theorem dX10_wordHere_14 : decode cX10_wordHere 14 = .ok (.iadd, 1) := by decide +kernel
theorem dX10_wordHere_15 : decode cX10_wordHere 15 = .ok (.invokevirtual 124, 3) := by decide +kernel
theorem dX10_wordHere_18 : decode cX10_wordHere 18 = .ok (.bipush 97, 2) := by decide +kernel
theorem dX10_wordHere_20 : decode cX10_wordHere 20 = .ok (.if_icmp .lt 55, 3) := by decide +kernel
theorem dX10_wordHere_23 : decode cX10_wordHere 23 = .ok (.aload_n 0, 1) := by decide +kernel
theorem dX10_wordHere_24 : decode cX10_wordHere 24 = .ok (.aload_n 0, 1) := by decide +kernel
theorem dX10_wordHere_25 : decode cX10_wordHere 25 = .ok (.getfield 121, 3) := by decide +kernel
theorem dX10_wordHere_28 : decode cX10_wordHere 28 = .ok (.iload_n 2, 1) := by decide +kernel
theorem dX10_wordHere_29 : decode cX10_wordHere 29 = .ok (.iadd, 1) := by decide +kernel
theorem dX10_wordHere_30 : decode cX10_wordHere 30 = .ok (.invokevirtual 124, 3) := by decide +kernel
theorem dX10_wordHere_33 : decode cX10_wordHere 33 = .ok (.bipush 122, 2) := by decide +kernel
theorem dX10_wordHere_35 : decode cX10_wordHere 35 = .ok (.if_icmp .gt 40, 3) := by decide +kernel
theorem dX10_wordHere_38 : decode cX10_wordHere 38 = .ok (.iload_n 2, 1) := by decide +kernel
theorem dX10_wordHere_39 : decode cX10_wordHere 39 = .ok (.bipush 6, 2) := by decide +kernel
theorem dX10_wordHere_41 : decode cX10_wordHere 41 = .ok (.if_icmp .ge 26, 3) := by decide +kernel
theorem dX10_wordHere_44 : decode cX10_wordHere 44 = .ok (.bipush 27, 2) := by decide +kernel
theorem dX10_wordHere_46 : decode cX10_wordHere 46 = .ok (.iload_n 1, 1) := by decide +kernel
theorem dX10_wordHere_47 : decode cX10_wordHere 47 = .ok (.imul, 1) := by decide +kernel
theorem dX10_wordHere_48 : decode cX10_wordHere 48 = .ok (.aload_n 0, 1) := by decide +kernel
theorem dX10_wordHere_49 : decode cX10_wordHere 49 = .ok (.aload_n 0, 1) := by decide +kernel
theorem dX10_wordHere_50 : decode cX10_wordHere 50 = .ok (.getfield 121, 3) := by decide +kernel
theorem dX10_wordHere_53 : decode cX10_wordHere 53 = .ok (.iload_n 2, 1) := by decide +kernel
theorem dX10_wordHere_54 : decode cX10_wordHere 54 = .ok (.iadd, 1) := by decide +kernel
theorem dX10_wordHere_55 : decode cX10_wordHere 55 = .ok (.invokevirtual 124, 3) := by decide +kernel
theorem dX10_wordHere_58 : decode cX10_wordHere 58 = .ok (.iadd, 1) := by decide +kernel
theorem dX10_wordHere_59 : decode cX10_wordHere 59 = .ok (.bipush 97, 2) := by decide +kernel
theorem dX10_wordHere_61 : decode cX10_wordHere 61 = .ok (.isub, 1) := by decide +kernel
theorem dX10_wordHere_62 : decode cX10_wordHere 62 = .ok (.iconst 1, 1) := by decide +kernel
theorem dX10_wordHere_63 : decode cX10_wordHere 63 = .ok (.iadd, 1) := by decide +kernel
theorem dX10_wordHere_64 : decode cX10_wordHere 64 = .ok (.goto 4, 3) := by decide +kernel
theorem dX10_wordHere_67 : decode cX10_wordHere 67 = .ok (.iload_n 1, 1) := by decide +kernel
theorem dX10_wordHere_68 : decode cX10_wordHere 68 = .ok (.istore_n 1, 1) := by decide +kernel
theorem dX10_wordHere_69 : decode cX10_wordHere 69 = .ok (.iinc 2 1, 3) := by decide +kernel
theorem dX10_wordHere_72 : decode cX10_wordHere 72 = .ok (.goto (-64), 3) := by decide +kernel
theorem dX10_wordHere_75 : decode cX10_wordHere 75 = .ok (.iload_n 2, 1) := by decide +kernel
theorem dX10_wordHere_76 : decode cX10_wordHere 76 = .ok (.bipush 6, 2) := by decide +kernel
theorem dX10_wordHere_78 : decode cX10_wordHere 78 = .ok (.if_icmp .le 7, 3) := by decide +kernel
theorem dX10_wordHere_81 : decode cX10_wordHere 81 = .ok (.iconst (-1), 1) := by decide +kernel
theorem dX10_wordHere_82 : decode cX10_wordHere 82 = .ok (.goto 4, 3) := by decide +kernel
theorem dX10_wordHere_85 : decode cX10_wordHere 85 = .ok (.iload_n 1, 1) := by decide +kernel
theorem dX10_wordHere_86 : decode cX10_wordHere 86 = .ok (.ireturn, 1) := by decide +kernel
theorem dX10_named_0 : decode cX10_named 0 = .ok (.bipush 27, 2) := by decide +kernel
theorem dX10_named_2 : decode cX10_named 2 = .ok (.bipush 27, 2) := by decide +kernel
theorem dX10_named_4 : decode cX10_named 4 = .ok (.iload_n 0, 1) := by decide +kernel
theorem dX10_named_5 : decode cX10_named 5 = .ok (.imul, 1) := by decide +kernel
theorem dX10_named_6 : decode cX10_named 6 = .ok (.iload_n 1, 1) := by decide +kernel
theorem dX10_named_7 : decode cX10_named 7 = .ok (.iadd, 1) := by decide +kernel
theorem dX10_named_8 : decode cX10_named 8 = .ok (.imul, 1) := by decide +kernel
theorem dX10_named_9 : decode cX10_named 9 = .ok (.iload_n 2, 1) := by decide +kernel
theorem dX10_named_10 : decode cX10_named 10 = .ok (.iadd, 1) := by decide +kernel
theorem dX10_named_11 : decode cX10_named 11 = .ok (.istore 6, 2) := by decide +kernel
theorem dX10_named_13 : decode cX10_named 13 = .ok (.iload_n 3, 1) := by decide +kernel
theorem dX10_named_14 : decode cX10_named 14 = .ok (.ifCond .ne 8, 3) := by decide +kernel
theorem dX10_named_17 : decode cX10_named 17 = .ok (.iload 6, 2) := by decide +kernel
theorem dX10_named_19 : decode cX10_named 19 = .ok (.goto 10, 3) := by decide +kernel
theorem dX10_named_22 : decode cX10_named 22 = .ok (.bipush 27, 2) := by decide +kernel
theorem dX10_named_24 : decode cX10_named 24 = .ok (.iload 6, 2) := by decide +kernel
theorem dX10_named_26 : decode cX10_named 26 = .ok (.imul, 1) := by decide +kernel
theorem dX10_named_27 : decode cX10_named 27 = .ok (.iload_n 3, 1) := by decide +kernel
theorem dX10_named_28 : decode cX10_named 28 = .ok (.iadd, 1) := by decide +kernel
theorem dX10_named_29 : decode cX10_named 29 = .ok (.istore 6, 2) := by decide +kernel
theorem dX10_named_31 : decode cX10_named 31 = .ok (.iload 4, 2) := by decide +kernel
theorem dX10_named_33 : decode cX10_named 33 = .ok (.ifCond .ne 8, 3) := by decide +kernel
theorem dX10_named_36 : decode cX10_named 36 = .ok (.iload 6, 2) := by decide +kernel
theorem dX10_named_38 : decode cX10_named 38 = .ok (.goto 11, 3) := by decide +kernel
theorem dX10_named_41 : decode cX10_named 41 = .ok (.bipush 27, 2) := by decide +kernel
theorem dX10_named_43 : decode cX10_named 43 = .ok (.iload 6, 2) := by decide +kernel
theorem dX10_named_45 : decode cX10_named 45 = .ok (.imul, 1) := by decide +kernel
theorem dX10_named_46 : decode cX10_named 46 = .ok (.iload 4, 2) := by decide +kernel
theorem dX10_named_48 : decode cX10_named 48 = .ok (.iadd, 1) := by decide +kernel
theorem dX10_named_49 : decode cX10_named 49 = .ok (.istore 6, 2) := by decide +kernel
theorem dX10_named_51 : decode cX10_named 51 = .ok (.iload 5, 2) := by decide +kernel
theorem dX10_named_53 : decode cX10_named 53 = .ok (.ifCond .ne 8, 3) := by decide +kernel
theorem dX10_named_56 : decode cX10_named 56 = .ok (.iload 6, 2) := by decide +kernel
theorem dX10_named_58 : decode cX10_named 58 = .ok (.goto 11, 3) := by decide +kernel
theorem dX10_named_61 : decode cX10_named 61 = .ok (.bipush 27, 2) := by decide +kernel
theorem dX10_named_63 : decode cX10_named 63 = .ok (.iload 6, 2) := by decide +kernel
theorem dX10_named_65 : decode cX10_named 65 = .ok (.imul, 1) := by decide +kernel
theorem dX10_named_66 : decode cX10_named 66 = .ok (.iload 5, 2) := by decide +kernel
theorem dX10_named_68 : decode cX10_named 68 = .ok (.iadd, 1) := by decide +kernel
theorem dX10_named_69 : decode cX10_named 69 = .ok (.ireturn, 1) := by decide +kernel
theorem dX10_isWord_0 : decode cX10_isWord 0 = .ok (.aload_n 0, 1) := by decide +kernel
theorem dX10_isWord_1 : decode cX10_isWord 1 = .ok (.getfield 128, 3) := by decide +kernel
theorem dX10_isWord_4 : decode cX10_isWord 4 = .ok (.ifCond .ne 26, 3) := by decide +kernel
theorem dX10_isWord_7 : decode cX10_isWord 7 = .ok (.aload_n 0, 1) := by decide +kernel
theorem dX10_isWord_8 : decode cX10_isWord 8 = .ok (.invokevirtual 150, 3) := by decide +kernel
theorem dX10_isWord_11 : decode cX10_isWord 11 = .ok (.iload_n 1, 1) := by decide +kernel
theorem dX10_isWord_12 : decode cX10_isWord 12 = .ok (.iload_n 2, 1) := by decide +kernel
theorem dX10_isWord_13 : decode cX10_isWord 13 = .ok (.iload_n 3, 1) := by decide +kernel
theorem dX10_isWord_14 : decode cX10_isWord 14 = .ok (.iload 4, 2) := by decide +kernel
theorem dX10_isWord_16 : decode cX10_isWord 16 = .ok (.iload 5, 2) := by decide +kernel
theorem dX10_isWord_18 : decode cX10_isWord 18 = .ok (.iload 6, 2) := by decide +kernel
theorem dX10_isWord_20 : decode cX10_isWord 20 = .ok (.invokestatic 154, 3) := by decide +kernel
theorem dX10_isWord_23 : decode cX10_isWord 23 = .ok (.if_icmp .ne 7, 3) := by decide +kernel
theorem dX10_isWord_26 : decode cX10_isWord 26 = .ok (.iconst 1, 1) := by decide +kernel
theorem dX10_isWord_27 : decode cX10_isWord 27 = .ok (.goto 4, 3) := by decide +kernel
theorem dX10_isWord_30 : decode cX10_isWord 30 = .ok (.iconst 0, 1) := by decide +kernel
theorem dX10_isWord_31 : decode cX10_isWord 31 = .ok (.ireturn, 1) := by decide +kernel
theorem dX10_skipWord_0 : decode cX10_skipWord 0 = .ok (.aload_n 0, 1) := by decide +kernel
theorem dX10_skipWord_1 : decode cX10_skipWord 1 = .ok (.aload_n 0, 1) := by decide +kernel
theorem dX10_skipWord_2 : decode cX10_skipWord 2 = .ok (.getfield 121, 3) := by decide +kernel
theorem dX10_skipWord_5 : decode cX10_skipWord 5 = .ok (.invokevirtual 124, 3) := by decide +kernel
theorem dX10_skipWord_8 : decode cX10_skipWord 8 = .ok (.bipush 97, 2) := by decide +kernel
theorem dX10_skipWord_10 : decode cX10_skipWord 10 = .ok (.if_icmp .lt 29, 3) := by decide +kernel
theorem dX10_skipWord_13 : decode cX10_skipWord 13 = .ok (.aload_n 0, 1) := by decide +kernel
theorem dX10_skipWord_14 : decode cX10_skipWord 14 = .ok (.aload_n 0, 1) := by decide +kernel
theorem dX10_skipWord_15 : decode cX10_skipWord 15 = .ok (.getfield 121, 3) := by decide +kernel
theorem dX10_skipWord_18 : decode cX10_skipWord 18 = .ok (.invokevirtual 124, 3) := by decide +kernel
theorem dX10_skipWord_21 : decode cX10_skipWord 21 = .ok (.bipush 122, 2) := by decide +kernel
theorem dX10_skipWord_23 : decode cX10_skipWord 23 = .ok (.if_icmp .gt 16, 3) := by decide +kernel
theorem dX10_skipWord_26 : decode cX10_skipWord 26 = .ok (.aload_n 0, 1) := by decide +kernel
theorem dX10_skipWord_27 : decode cX10_skipWord 27 = .ok (.dup, 1) := by decide +kernel
theorem dX10_skipWord_28 : decode cX10_skipWord 28 = .ok (.getfield 121, 3) := by decide +kernel
theorem dX10_skipWord_31 : decode cX10_skipWord 31 = .ok (.iconst 1, 1) := by decide +kernel
theorem dX10_skipWord_32 : decode cX10_skipWord 32 = .ok (.iadd, 1) := by decide +kernel
theorem dX10_skipWord_33 : decode cX10_skipWord 33 = .ok (.putfield 121, 3) := by decide +kernel
theorem dX10_skipWord_36 : decode cX10_skipWord 36 = .ok (.goto (-36), 3) := by decide +kernel
theorem dX10_skipWord_39 : decode cX10_skipWord 39 = .ok (.return_, 1) := by decide +kernel
theorem dX10_sign_0 : decode cX10_sign 0 = .ok (.aload_n 0, 1) := by decide +kernel
theorem dX10_sign_1 : decode cX10_sign 1 = .ok (.getfield 128, 3) := by decide +kernel
theorem dX10_sign_4 : decode cX10_sign 4 = .ok (.ifCond .eq 4, 3) := by decide +kernel
theorem dX10_sign_7 : decode cX10_sign 7 = .ok (.return_, 1) := by decide +kernel
theorem dX10_sign_8 : decode cX10_sign 8 = .ok (.aload_n 0, 1) := by decide +kernel
theorem dX10_sign_9 : decode cX10_sign 9 = .ok (.invokevirtual 134, 3) := by decide +kernel
theorem dX10_sign_12 : decode cX10_sign 12 = .ok (.aload_n 0, 1) := by decide +kernel
theorem dX10_sign_13 : decode cX10_sign 13 = .ok (.aload_n 0, 1) := by decide +kernel
theorem dX10_sign_14 : decode cX10_sign 14 = .ok (.getfield 121, 3) := by decide +kernel
theorem dX10_sign_17 : decode cX10_sign 17 = .ok (.invokevirtual 124, 3) := by decide +kernel
theorem dX10_sign_20 : decode cX10_sign 20 = .ok (.iload_n 1, 1) := by decide +kernel
theorem dX10_sign_21 : decode cX10_sign 21 = .ok (.if_icmp .ne 16, 3) := by decide +kernel
theorem dX10_sign_24 : decode cX10_sign 24 = .ok (.aload_n 0, 1) := by decide +kernel
theorem dX10_sign_25 : decode cX10_sign 25 = .ok (.dup, 1) := by decide +kernel
theorem dX10_sign_26 : decode cX10_sign 26 = .ok (.getfield 121, 3) := by decide +kernel
theorem dX10_sign_29 : decode cX10_sign 29 = .ok (.iconst 1, 1) := by decide +kernel
theorem dX10_sign_30 : decode cX10_sign 30 = .ok (.iadd, 1) := by decide +kernel
theorem dX10_sign_31 : decode cX10_sign 31 = .ok (.putfield 121, 3) := by decide +kernel
theorem dX10_sign_34 : decode cX10_sign 34 = .ok (.goto 12, 3) := by decide +kernel
theorem dX10_sign_37 : decode cX10_sign 37 = .ok (.aload_n 0, 1) := by decide +kernel
theorem dX10_sign_38 : decode cX10_sign 38 = .ok (.iconst 1, 1) := by decide +kernel
theorem dX10_sign_39 : decode cX10_sign 39 = .ok (.aload_n 0, 1) := by decide +kernel
theorem dX10_sign_40 : decode cX10_sign 40 = .ok (.getfield 121, 3) := by decide +kernel
theorem dX10_sign_43 : decode cX10_sign 43 = .ok (.invokevirtual 141, 3) := by decide +kernel
theorem dX10_sign_46 : decode cX10_sign 46 = .ok (.return_, 1) := by decide +kernel
theorem dX10_kindHere_0 : decode cX10_kindHere 0 = .ok (.aload_n 0, 1) := by decide +kernel
theorem dX10_kindHere_1 : decode cX10_kindHere 1 = .ok (.bipush 12, 2) := by decide +kernel
theorem dX10_kindHere_3 : decode cX10_kindHere 3 = .ok (.iconst 5, 1) := by decide +kernel
theorem dX10_kindHere_4 : decode cX10_kindHere 4 = .ok (.bipush 20, 2) := by decide +kernel
theorem dX10_kindHere_6 : decode cX10_kindHere 6 = .ok (.bipush 20, 2) := by decide +kernel
theorem dX10_kindHere_8 : decode cX10_kindHere 8 = .ok (.iconst 5, 1) := by decide +kernel
theorem dX10_kindHere_9 : decode cX10_kindHere 9 = .ok (.bipush 18, 2) := by decide +kernel
theorem dX10_kindHere_11 : decode cX10_kindHere 11 = .ok (.invokevirtual 158, 3) := by decide +kernel
theorem dX10_kindHere_14 : decode cX10_kindHere 14 = .ok (.ifCond .eq 5, 3) := by decide +kernel
theorem dX10_kindHere_17 : decode cX10_kindHere 17 = .ok (.iconst 0, 1) := by decide +kernel
theorem dX10_kindHere_18 : decode cX10_kindHere 18 = .ok (.ireturn, 1) := by decide +kernel
theorem dX10_kindHere_19 : decode cX10_kindHere 19 = .ok (.aload_n 0, 1) := by decide +kernel
theorem dX10_kindHere_20 : decode cX10_kindHere 20 = .ok (.bipush 20, 2) := by decide +kernel
theorem dX10_kindHere_22 : decode cX10_kindHere 22 = .ok (.bipush 21, 2) := by decide +kernel
theorem dX10_kindHere_24 : decode cX10_kindHere 24 = .ok (.bipush 18, 2) := by decide +kernel
theorem dX10_kindHere_26 : decode cX10_kindHere 26 = .ok (.bipush 14, 2) := by decide +kernel
theorem dX10_kindHere_28 : decode cX10_kindHere 28 = .ok (.iconst 5, 1) := by decide +kernel
theorem dX10_kindHere_29 : decode cX10_kindHere 29 = .ok (.iconst 4, 1) := by decide +kernel
theorem dX10_kindHere_30 : decode cX10_kindHere 30 = .ok (.invokevirtual 158, 3) := by decide +kernel
theorem dX10_kindHere_33 : decode cX10_kindHere 33 = .ok (.ifCond .eq 5, 3) := by decide +kernel
theorem dX10_kindHere_36 : decode cX10_kindHere 36 = .ok (.iconst 1, 1) := by decide +kernel
theorem dX10_kindHere_37 : decode cX10_kindHere 37 = .ok (.ireturn, 1) := by decide +kernel
theorem dX10_kindHere_38 : decode cX10_kindHere 38 = .ok (.aload_n 0, 1) := by decide +kernel
theorem dX10_kindHere_39 : decode cX10_kindHere 39 = .ok (.bipush 13, 2) := by decide +kernel
theorem dX10_kindHere_41 : decode cX10_kindHere 41 = .ok (.bipush 9, 2) := by decide +kernel
theorem dX10_kindHere_43 : decode cX10_kindHere 43 = .ok (.bipush 18, 2) := by decide +kernel
theorem dX10_kindHere_45 : decode cX10_kindHere 45 = .ok (.bipush 18, 2) := by decide +kernel
theorem dX10_kindHere_47 : decode cX10_kindHere 47 = .ok (.bipush 15, 2) := by decide +kernel
theorem dX10_kindHere_49 : decode cX10_kindHere 49 = .ok (.bipush 18, 2) := by decide +kernel
theorem dX10_kindHere_51 : decode cX10_kindHere 51 = .ok (.invokevirtual 158, 3) := by decide +kernel
theorem dX10_kindHere_54 : decode cX10_kindHere 54 = .ok (.ifCond .eq 5, 3) := by decide +kernel
theorem dX10_kindHere_57 : decode cX10_kindHere 57 = .ok (.iconst 2, 1) := by decide +kernel
theorem dX10_kindHere_58 : decode cX10_kindHere 58 = .ok (.ireturn, 1) := by decide +kernel
theorem dX10_kindHere_59 : decode cX10_kindHere 59 = .ok (.aload_n 0, 1) := by decide +kernel
theorem dX10_kindHere_60 : decode cX10_kindHere 60 = .ok (.iconst 2, 1) := by decide +kernel
theorem dX10_kindHere_61 : decode cX10_kindHere 61 = .ok (.iconst 1, 1) := by decide +kernel
theorem dX10_kindHere_62 : decode cX10_kindHere 62 = .ok (.bipush 18, 2) := by decide +kernel
theorem dX10_kindHere_64 : decode cX10_kindHere 64 = .ok (.iconst 0, 1) := by decide +kernel
theorem dX10_kindHere_65 : decode cX10_kindHere 65 = .ok (.iconst 0, 1) := by decide +kernel
theorem dX10_kindHere_66 : decode cX10_kindHere 66 = .ok (.iconst 0, 1) := by decide +kernel
theorem dX10_kindHere_67 : decode cX10_kindHere 67 = .ok (.invokevirtual 158, 3) := by decide +kernel
theorem dX10_kindHere_70 : decode cX10_kindHere 70 = .ok (.ifCond .eq 5, 3) := by decide +kernel
theorem dX10_kindHere_73 : decode cX10_kindHere 73 = .ok (.iconst 3, 1) := by decide +kernel
theorem dX10_kindHere_74 : decode cX10_kindHere 74 = .ok (.ireturn, 1) := by decide +kernel
theorem dX10_kindHere_75 : decode cX10_kindHere 75 = .ok (.aload_n 0, 1) := by decide +kernel
theorem dX10_kindHere_76 : decode cX10_kindHere 76 = .ok (.bipush 18, 2) := by decide +kernel
theorem dX10_kindHere_78 : decode cX10_kindHere 78 = .ok (.bipush 9, 2) := by decide +kernel
theorem dX10_kindHere_80 : decode cX10_kindHere 80 = .ok (.bipush 14, 2) := by decide +kernel
theorem dX10_kindHere_82 : decode cX10_kindHere 82 = .ok (.bipush 7, 2) := by decide +kernel
theorem dX10_kindHere_84 : decode cX10_kindHere 84 = .ok (.iconst 0, 1) := by decide +kernel
theorem dX10_kindHere_85 : decode cX10_kindHere 85 = .ok (.iconst 0, 1) := by decide +kernel
theorem dX10_kindHere_86 : decode cX10_kindHere 86 = .ok (.invokevirtual 158, 3) := by decide +kernel
theorem dX10_kindHere_89 : decode cX10_kindHere 89 = .ok (.ifCond .eq 5, 3) := by decide +kernel
theorem dX10_kindHere_92 : decode cX10_kindHere 92 = .ok (.iconst 4, 1) := by decide +kernel
theorem dX10_kindHere_93 : decode cX10_kindHere 93 = .ok (.ireturn, 1) := by decide +kernel
theorem dX10_kindHere_94 : decode cX10_kindHere 94 = .ok (.aload_n 0, 1) := by decide +kernel
theorem dX10_kindHere_95 : decode cX10_kindHere 95 = .ok (.iconst 3, 1) := by decide +kernel
theorem dX10_kindHere_96 : decode cX10_kindHere 96 = .ok (.bipush 21, 2) := by decide +kernel
theorem dX10_kindHere_98 : decode cX10_kindHere 98 = .ok (.bipush 20, 2) := by decide +kernel
theorem dX10_kindHere_100 : decode cX10_kindHere 100 = .ok (.iconst 0, 1) := by decide +kernel
theorem dX10_kindHere_101 : decode cX10_kindHere 101 = .ok (.iconst 0, 1) := by decide +kernel
theorem dX10_kindHere_102 : decode cX10_kindHere 102 = .ok (.iconst 0, 1) := by decide +kernel
theorem dX10_kindHere_103 : decode cX10_kindHere 103 = .ok (.invokevirtual 158, 3) := by decide +kernel
theorem dX10_kindHere_106 : decode cX10_kindHere 106 = .ok (.ifCond .eq 5, 3) := by decide +kernel
theorem dX10_kindHere_109 : decode cX10_kindHere 109 = .ok (.iconst 5, 1) := by decide +kernel
theorem dX10_kindHere_110 : decode cX10_kindHere 110 = .ok (.ireturn, 1) := by decide +kernel
theorem dX10_kindHere_111 : decode cX10_kindHere 111 = .ok (.aload_n 0, 1) := by decide +kernel
theorem dX10_kindHere_112 : decode cX10_kindHere 112 = .ok (.bipush 23, 2) := by decide +kernel
theorem dX10_kindHere_114 : decode cX10_kindHere 114 = .ok (.bipush 15, 2) := by decide +kernel
theorem dX10_kindHere_116 : decode cX10_kindHere 116 = .ok (.bipush 18, 2) := by decide +kernel
theorem dX10_kindHere_118 : decode cX10_kindHere 118 = .ok (.iconst 4, 1) := by decide +kernel
theorem dX10_kindHere_119 : decode cX10_kindHere 119 = .ok (.iconst 0, 1) := by decide +kernel
theorem dX10_kindHere_120 : decode cX10_kindHere 120 = .ok (.iconst 0, 1) := by decide +kernel
theorem dX10_kindHere_121 : decode cX10_kindHere 121 = .ok (.invokevirtual 158, 3) := by decide +kernel
theorem dX10_kindHere_124 : decode cX10_kindHere 124 = .ok (.ifCond .eq 6, 3) := by decide +kernel
theorem dX10_kindHere_127 : decode cX10_kindHere 127 = .ok (.bipush 6, 2) := by decide +kernel
theorem dX10_kindHere_129 : decode cX10_kindHere 129 = .ok (.ireturn, 1) := by decide +kernel
theorem dX10_kindHere_130 : decode cX10_kindHere 130 = .ok (.aload_n 0, 1) := by decide +kernel
theorem dX10_kindHere_131 : decode cX10_kindHere 131 = .ok (.bipush 19, 2) := by decide +kernel
theorem dX10_kindHere_133 : decode cX10_kindHere 133 = .ok (.bipush 16, 2) := by decide +kernel
theorem dX10_kindHere_135 : decode cX10_kindHere 135 = .ok (.bipush 18, 2) := by decide +kernel
theorem dX10_kindHere_137 : decode cX10_kindHere 137 = .ok (.iconst 5, 1) := by decide +kernel
theorem dX10_kindHere_138 : decode cX10_kindHere 138 = .ok (.iconst 1, 1) := by decide +kernel
theorem dX10_kindHere_139 : decode cX10_kindHere 139 = .ok (.iconst 4, 1) := by decide +kernel
theorem dX10_kindHere_140 : decode cX10_kindHere 140 = .ok (.invokevirtual 158, 3) := by decide +kernel
theorem dX10_kindHere_143 : decode cX10_kindHere 143 = .ok (.ifCond .eq 8, 3) := by decide +kernel
theorem dX10_kindHere_146 : decode cX10_kindHere 146 = .ok (.bipush 7, 2) := by decide +kernel
theorem dX10_kindHere_148 : decode cX10_kindHere 148 = .ok (.goto 4, 3) := by decide +kernel
theorem dX10_kindHere_151 : decode cX10_kindHere 151 = .ok (.iconst (-1), 1) := by decide +kernel
theorem dX10_kindHere_152 : decode cX10_kindHere 152 = .ok (.ireturn, 1) := by decide +kernel
theorem dX10_clause_0 : decode cX10_clause 0 = .ok (.aload_n 0, 1) := by decide +kernel
theorem dX10_clause_1 : decode cX10_clause 1 = .ok (.invokevirtual 162, 3) := by decide +kernel
theorem dX10_clause_4 : decode cX10_clause 4 = .ok (.istore_n 1, 1) := by decide +kernel
theorem dX10_clause_5 : decode cX10_clause 5 = .ok (.iload_n 1, 1) := by decide +kernel
theorem dX10_clause_6 : decode cX10_clause 6 = .ok (.iconst (-1), 1) := by decide +kernel
theorem dX10_clause_7 : decode cX10_clause 7 = .ok (.if_icmp .eq 21, 3) := by decide +kernel
theorem dX10_clause_10 : decode cX10_clause 10 = .ok (.iload_n 1, 1) := by decide +kernel
theorem dX10_clause_11 : decode cX10_clause 11 = .ok (.iconst 3, 1) := by decide +kernel
theorem dX10_clause_12 : decode cX10_clause 12 = .ok (.iconst 5, 1) := by decide +kernel
theorem dX10_clause_13 : decode cX10_clause 13 = .ok (.invokestatic 146, 3) := by decide +kernel
theorem dX10_clause_16 : decode cX10_clause 16 = .ok (.ifCond .eq 24, 3) := by decide +kernel
theorem dX10_clause_19 : decode cX10_clause 19 = .ok (.aload_n 0, 1) := by decide +kernel
theorem dX10_clause_20 : decode cX10_clause 20 = .ok (.getfield 17, 3) := by decide +kernel
theorem dX10_clause_23 : decode cX10_clause 23 = .ok (.iconst 0, 1) := by decide +kernel
theorem dX10_clause_24 : decode cX10_clause 24 = .ok (.iaload, 1) := by decide +kernel
theorem dX10_clause_25 : decode cX10_clause 25 = .ok (.ifCond .ne 15, 3) := by decide +kernel
theorem dX10_clause_28 : decode cX10_clause 28 = .ok (.aload_n 0, 1) := by decide +kernel
theorem dX10_clause_29 : decode cX10_clause 29 = .ok (.iconst 1, 1) := by decide +kernel
theorem dX10_clause_30 : decode cX10_clause 30 = .ok (.aload_n 0, 1) := by decide +kernel
theorem dX10_clause_31 : decode cX10_clause 31 = .ok (.getfield 121, 3) := by decide +kernel
theorem dX10_clause_34 : decode cX10_clause 34 = .ok (.invokevirtual 141, 3) := by decide +kernel
theorem dX10_clause_37 : decode cX10_clause 37 = .ok (.goto 54, 3) := by decide +kernel
theorem dX10_clause_40 : decode cX10_clause 40 = .ok (.aload_n 0, 1) := by decide +kernel
theorem dX10_clause_41 : decode cX10_clause 41 = .ok (.getfield 165, 3) := by decide +kernel
theorem dX10_clause_44 : decode cX10_clause 44 = .ok (.bipush 60, 2) := by decide +kernel
theorem dX10_clause_46 : decode cX10_clause 46 = .ok (.if_icmp .eq 36, 3) := by decide +kernel
theorem dX10_clause_49 : decode cX10_clause 49 = .ok (.iload_n 1, 1) := by decide +kernel
theorem dX10_clause_50 : decode cX10_clause 50 = .ok (.iconst 3, 1) := by decide +kernel
theorem dX10_clause_51 : decode cX10_clause 51 = .ok (.if_icmp .ge 14, 3) := by decide +kernel
theorem dX10_clause_54 : decode cX10_clause 54 = .ok (.aload_n 0, 1) := by decide +kernel
theorem dX10_clause_55 : decode cX10_clause 55 = .ok (.getfield 17, 3) := by decide +kernel
theorem dX10_clause_58 : decode cX10_clause 58 = .ok (.iconst 0, 1) := by decide +kernel
theorem dX10_clause_59 : decode cX10_clause 59 = .ok (.iaload, 1) := by decide +kernel
theorem dX10_clause_60 : decode cX10_clause 60 = .ok (.bipush 10, 2) := by decide +kernel
theorem dX10_clause_62 : decode cX10_clause 62 = .ok (.if_icmp .eq 20, 3) := by decide +kernel
theorem dX10_clause_65 : decode cX10_clause 65 = .ok (.iload_n 1, 1) := by decide +kernel
theorem dX10_clause_66 : decode cX10_clause 66 = .ok (.bipush 6, 2) := by decide +kernel
theorem dX10_clause_68 : decode cX10_clause 68 = .ok (.if_icmp .ne 23, 3) := by decide +kernel
theorem dX10_clause_71 : decode cX10_clause 71 = .ok (.aload_n 0, 1) := by decide +kernel
theorem dX10_clause_72 : decode cX10_clause 72 = .ok (.getfield 17, 3) := by decide +kernel
theorem dX10_clause_75 : decode cX10_clause 75 = .ok (.iconst 1, 1) := by decide +kernel
theorem dX10_clause_76 : decode cX10_clause 76 = .ok (.iaload, 1) := by decide +kernel
theorem dX10_clause_77 : decode cX10_clause 77 = .ok (.bipush 6, 2) := by decide +kernel
theorem dX10_clause_79 : decode cX10_clause 79 = .ok (.if_icmp .ne 12, 3) := by decide +kernel
theorem dX10_clause_82 : decode cX10_clause 82 = .ok (.aload_n 0, 1) := by decide +kernel
theorem dX10_clause_83 : decode cX10_clause 83 = .ok (.iconst 3, 1) := by decide +kernel
theorem dX10_clause_84 : decode cX10_clause 84 = .ok (.aload_n 0, 1) := by decide +kernel
theorem dX10_clause_85 : decode cX10_clause 85 = .ok (.getfield 121, 3) := by decide +kernel
theorem dX10_clause_88 : decode cX10_clause 88 = .ok (.invokevirtual 141, 3) := by decide +kernel
theorem dX10_clause_91 : decode cX10_clause 91 = .ok (.aload_n 0, 1) := by decide +kernel
theorem dX10_clause_92 : decode cX10_clause 92 = .ok (.getfield 128, 3) := by decide +kernel
theorem dX10_clause_95 : decode cX10_clause 95 = .ok (.ifCond .eq 4, 3) := by decide +kernel
theorem dX10_clause_98 : decode cX10_clause 98 = .ok (.return_, 1) := by decide +kernel
theorem dX10_clause_99 : decode cX10_clause 99 = .ok (.aload_n 0, 1) := by decide +kernel
theorem dX10_clause_100 : decode cX10_clause 100 = .ok (.invokevirtual 168, 3) := by decide +kernel
theorem dX10_clause_103 : decode cX10_clause 103 = .ok (.aload_n 0, 1) := by decide +kernel
theorem dX10_clause_104 : decode cX10_clause 104 = .ok (.dup, 1) := by decide +kernel
theorem dX10_clause_105 : decode cX10_clause 105 = .ok (.getfield 165, 3) := by decide +kernel
theorem dX10_clause_108 : decode cX10_clause 108 = .ok (.iconst 1, 1) := by decide +kernel
theorem dX10_clause_109 : decode cX10_clause 109 = .ok (.iadd, 1) := by decide +kernel
theorem dX10_clause_110 : decode cX10_clause 110 = .ok (.putfield 165, 3) := by decide +kernel
theorem dX10_clause_113 : decode cX10_clause 113 = .ok (.iload_n 1, 1) := by decide +kernel
theorem dX10_clause_114 : decode cX10_clause 114 = .ok (.iconst 3, 1) := by decide +kernel
theorem dX10_clause_115 : decode cX10_clause 115 = .ok (.if_icmp .ge 11, 3) := by decide +kernel
theorem dX10_clause_118 : decode cX10_clause 118 = .ok (.aload_n 0, 1) := by decide +kernel
theorem dX10_clause_119 : decode cX10_clause 119 = .ok (.iload_n 1, 1) := by decide +kernel
theorem dX10_clause_120 : decode cX10_clause 120 = .ok (.invokevirtual 171, 3) := by decide +kernel
theorem dX10_clause_123 : decode cX10_clause 123 = .ok (.goto 34, 3) := by decide +kernel
theorem dX10_clause_126 : decode cX10_clause 126 = .ok (.iload_n 1, 1) := by decide +kernel
theorem dX10_clause_127 : decode cX10_clause 127 = .ok (.bipush 6, 2) := by decide +kernel
theorem dX10_clause_129 : decode cX10_clause 129 = .ok (.if_icmp .ge 11, 3) := by decide +kernel
theorem dX10_clause_132 : decode cX10_clause 132 = .ok (.aload_n 0, 1) := by decide +kernel
theorem dX10_clause_133 : decode cX10_clause 133 = .ok (.iload_n 1, 1) := by decide +kernel
theorem dX10_clause_134 : decode cX10_clause 134 = .ok (.invokevirtual 175, 3) := by decide +kernel
theorem dX10_clause_137 : decode cX10_clause 137 = .ok (.goto 20, 3) := by decide +kernel
theorem dX10_clause_140 : decode cX10_clause 140 = .ok (.iload_n 1, 1) := by decide +kernel
theorem dX10_clause_141 : decode cX10_clause 141 = .ok (.bipush 6, 2) := by decide +kernel
theorem dX10_clause_143 : decode cX10_clause 143 = .ok (.if_icmp .ne 10, 3) := by decide +kernel
theorem dX10_clause_146 : decode cX10_clause 146 = .ok (.aload_n 0, 1) := by decide +kernel
theorem dX10_clause_147 : decode cX10_clause 147 = .ok (.invokevirtual 178, 3) := by decide +kernel
theorem dX10_clause_150 : decode cX10_clause 150 = .ok (.goto 7, 3) := by decide +kernel
theorem dX10_clause_153 : decode cX10_clause 153 = .ok (.aload_n 0, 1) := by decide +kernel
theorem dX10_clause_154 : decode cX10_clause 154 = .ok (.invokevirtual 181, 3) := by decide +kernel
theorem dX10_clause_157 : decode cX10_clause 157 = .ok (.aload_n 0, 1) := by decide +kernel
theorem dX10_clause_158 : decode cX10_clause 158 = .ok (.bipush 59, 2) := by decide +kernel
theorem dX10_clause_160 : decode cX10_clause 160 = .ok (.invokevirtual 184, 3) := by decide +kernel
theorem dX10_clause_163 : decode cX10_clause 163 = .ok (.return_, 1) := by decide +kernel
theorem dX10_readsLetter_0 : decode cX10_readsLetter 0 = .ok (.iload_n 1, 1) := by decide +kernel
theorem dX10_readsLetter_1 : decode cX10_readsLetter 1 = .ok (.ifCond .ne 7, 3) := by decide +kernel
theorem dX10_readsLetter_4 : decode cX10_readsLetter 4 = .ok (.lconst 0, 1) := by decide +kernel
theorem dX10_readsLetter_5 : decode cX10_readsLetter 5 = .ok (.goto 21, 3) := by decide +kernel
theorem dX10_readsLetter_8 : decode cX10_readsLetter 8 = .ok (.aload_n 0, 1) := by decide +kernel
theorem dX10_readsLetter_9 : decode cX10_readsLetter 9 = .ok (.getfield 23, 3) := by decide +kernel
theorem dX10_readsLetter_12 : decode cX10_readsLetter 12 = .ok (.aload_n 0, 1) := by decide +kernel
theorem dX10_readsLetter_13 : decode cX10_readsLetter 13 = .ok (.iconst 0, 1) := by decide +kernel
theorem dX10_readsLetter_14 : decode cX10_readsLetter 14 = .ok (.aload_n 0, 1) := by decide +kernel
theorem dX10_readsLetter_15 : decode cX10_readsLetter 15 = .ok (.getfield 17, 3) := by decide +kernel
theorem dX10_readsLetter_18 : decode cX10_readsLetter 18 = .ok (.iconst 0, 1) := by decide +kernel
theorem dX10_readsLetter_19 : decode cX10_readsLetter 19 = .ok (.iaload, 1) := by decide +kernel
theorem dX10_readsLetter_20 : decode cX10_readsLetter 20 = .ok (.iconst 1, 1) := by decide +kernel
theorem dX10_readsLetter_21 : decode cX10_readsLetter 21 = .ok (.isub, 1) := by decide +kernel
theorem dX10_readsLetter_22 : decode cX10_readsLetter 22 = .ok (.invokevirtual 187, 3) := by decide +kernel
theorem dX10_readsLetter_25 : decode cX10_readsLetter 25 = .ok (.laload, 1) := by decide +kernel
theorem dX10_readsLetter_26 : decode cX10_readsLetter 26 = .ok (.lstore_n 2, 1) := by decide +kernel
theorem dX10_readsLetter_27 : decode cX10_readsLetter 27 = .ok (.lconst 0, 1) := by decide +kernel
theorem dX10_readsLetter_28 : decode cX10_readsLetter 28 = .ok (.lstore 4, 2) := by decide +kernel
theorem dX10_readsLetter_30 : decode cX10_readsLetter 30 = .ok (.iconst 0, 1) := by decide +kernel
theorem dX10_readsLetter_31 : decode cX10_readsLetter 31 = .ok (.istore 6, 2) := by decide +kernel
theorem dX10_readsLetter_33 : decode cX10_readsLetter 33 = .ok (.iload 6, 2) := by decide +kernel
theorem dX10_readsLetter_35 : decode cX10_readsLetter 35 = .ok (.bipush 64, 2) := by decide +kernel
theorem dX10_readsLetter_37 : decode cX10_readsLetter 37 = .ok (.if_icmp .ge 55, 3) := by decide +kernel
theorem dX10_readsLetter_40 : decode cX10_readsLetter 40 = .ok (.lload_n 2, 1) := by decide +kernel
theorem dX10_readsLetter_41 : decode cX10_readsLetter 41 = .ok (.iload 6, 2) := by decide +kernel
theorem dX10_readsLetter_43 : decode cX10_readsLetter 43 = .ok (.invokestatic 191, 3) := by decide +kernel
theorem dX10_readsLetter_46 : decode cX10_readsLetter 46 = .ok (.ifCond .eq 40, 3) := by decide +kernel
theorem dX10_readsLetter_49 : decode cX10_readsLetter 49 = .ok (.lload 4, 2) := by decide +kernel
theorem dX10_readsLetter_51 : decode cX10_readsLetter 51 = .ok (.lconst 1, 1) := by decide +kernel
theorem dX10_readsLetter_52 : decode cX10_readsLetter 52 = .ok (.iload_n 1, 1) := by decide +kernel
theorem dX10_readsLetter_53 : decode cX10_readsLetter 53 = .ok (.iconst 1, 1) := by decide +kernel
theorem dX10_readsLetter_54 : decode cX10_readsLetter 54 = .ok (.if_icmp .ne 11, 3) := by decide +kernel
theorem dX10_readsLetter_57 : decode cX10_readsLetter 57 = .ok (.bipush 63, 2) := by decide +kernel
theorem dX10_readsLetter_59 : decode cX10_readsLetter 59 = .ok (.iload 6, 2) := by decide +kernel
theorem dX10_readsLetter_61 : decode cX10_readsLetter 61 = .ok (.isub, 1) := by decide +kernel
theorem dX10_readsLetter_62 : decode cX10_readsLetter 62 = .ok (.goto 20, 3) := by decide +kernel
theorem dX10_readsLetter_65 : decode cX10_readsLetter 65 = .ok (.iload 6, 2) := by decide +kernel
theorem dX10_readsLetter_67 : decode cX10_readsLetter 67 = .ok (.iload 6, 2) := by decide +kernel
theorem dX10_readsLetter_69 : decode cX10_readsLetter 69 = .ok (.bipush 8, 2) := by decide +kernel
theorem dX10_readsLetter_71 : decode cX10_readsLetter 71 = .ok (.irem, 1) := by decide +kernel
theorem dX10_readsLetter_72 : decode cX10_readsLetter 72 = .ok (.isub, 1) := by decide +kernel
theorem dX10_readsLetter_73 : decode cX10_readsLetter 73 = .ok (.bipush 7, 2) := by decide +kernel
theorem dX10_readsLetter_75 : decode cX10_readsLetter 75 = .ok (.iadd, 1) := by decide +kernel
theorem dX10_readsLetter_76 : decode cX10_readsLetter 76 = .ok (.iload 6, 2) := by decide +kernel
theorem dX10_readsLetter_78 : decode cX10_readsLetter 78 = .ok (.bipush 8, 2) := by decide +kernel
theorem dX10_readsLetter_80 : decode cX10_readsLetter 80 = .ok (.irem, 1) := by decide +kernel
theorem dX10_readsLetter_81 : decode cX10_readsLetter 81 = .ok (.isub, 1) := by decide +kernel
theorem dX10_readsLetter_82 : decode cX10_readsLetter 82 = .ok (.lshl, 1) := by decide +kernel
theorem dX10_readsLetter_83 : decode cX10_readsLetter 83 = .ok (.lor, 1) := by decide +kernel
theorem dX10_readsLetter_84 : decode cX10_readsLetter 84 = .ok (.lstore 4, 2) := by decide +kernel
theorem dX10_readsLetter_86 : decode cX10_readsLetter 86 = .ok (.iinc 6 1, 3) := by decide +kernel
theorem dX10_readsLetter_89 : decode cX10_readsLetter 89 = .ok (.goto (-56), 3) := by decide +kernel
theorem dX10_readsLetter_92 : decode cX10_readsLetter 92 = .ok (.aload_n 0, 1) := by decide +kernel
theorem dX10_readsLetter_93 : decode cX10_readsLetter 93 = .ok (.getfield 128, 3) := by decide +kernel
theorem dX10_readsLetter_96 : decode cX10_readsLetter 96 = .ok (.ifCond .eq 4, 3) := by decide +kernel
theorem dX10_readsLetter_99 : decode cX10_readsLetter 99 = .ok (.return_, 1) := by decide +kernel
theorem dX10_readsLetter_100 : decode cX10_readsLetter 100 = .ok (.aload_n 0, 1) := by decide +kernel
theorem dX10_readsLetter_101 : decode cX10_readsLetter 101 = .ok (.getfield 23, 3) := by decide +kernel
theorem dX10_readsLetter_104 : decode cX10_readsLetter 104 = .ok (.aload_n 0, 1) := by decide +kernel
theorem dX10_readsLetter_105 : decode cX10_readsLetter 105 = .ok (.getfield 17, 3) := by decide +kernel
theorem dX10_readsLetter_108 : decode cX10_readsLetter 108 = .ok (.iconst 0, 1) := by decide +kernel
theorem dX10_readsLetter_109 : decode cX10_readsLetter 109 = .ok (.iaload, 1) := by decide +kernel
theorem dX10_readsLetter_110 : decode cX10_readsLetter 110 = .ok (.lload 4, 2) := by decide +kernel
theorem dX10_readsLetter_112 : decode cX10_readsLetter 112 = .ok (.lastore, 1) := by decide +kernel
theorem dX10_readsLetter_113 : decode cX10_readsLetter 113 = .ok (.aload_n 0, 1) := by decide +kernel
theorem dX10_readsLetter_114 : decode cX10_readsLetter 114 = .ok (.getfield 17, 3) := by decide +kernel
theorem dX10_readsLetter_117 : decode cX10_readsLetter 117 = .ok (.iconst 0, 1) := by decide +kernel
theorem dX10_readsLetter_118 : decode cX10_readsLetter 118 = .ok (.dup2, 1) := by decide +kernel
theorem dX10_readsLetter_119 : decode cX10_readsLetter 119 = .ok (.iaload, 1) := by decide +kernel
theorem dX10_readsLetter_120 : decode cX10_readsLetter 120 = .ok (.iconst 1, 1) := by decide +kernel
theorem dX10_readsLetter_121 : decode cX10_readsLetter 121 = .ok (.iadd, 1) := by decide +kernel
theorem dX10_readsLetter_122 : decode cX10_readsLetter 122 = .ok (.iastore, 1) := by decide +kernel
theorem dX10_readsLetter_123 : decode cX10_readsLetter 123 = .ok (.return_, 1) := by decide +kernel
theorem dX10_readsBar_0 : decode cX10_readsBar 0 = .ok (.aload_n 0, 1) := by decide +kernel
theorem dX10_readsBar_1 : decode cX10_readsBar 1 = .ok (.iconst 0, 1) := by decide +kernel
theorem dX10_readsBar_2 : decode cX10_readsBar 2 = .ok (.bipush 7, 2) := by decide +kernel
theorem dX10_readsBar_4 : decode cX10_readsBar 4 = .ok (.invokevirtual 187, 3) := by decide +kernel
theorem dX10_readsBar_7 : decode cX10_readsBar 7 = .ok (.istore_n 2, 1) := by decide +kernel
theorem dX10_readsBar_8 : decode cX10_readsBar 8 = .ok (.aload_n 0, 1) := by decide +kernel
theorem dX10_readsBar_9 : decode cX10_readsBar 9 = .ok (.iconst 0, 1) := by decide +kernel
theorem dX10_readsBar_10 : decode cX10_readsBar 10 = .ok (.bipush 7, 2) := by decide +kernel
theorem dX10_readsBar_12 : decode cX10_readsBar 12 = .ok (.invokevirtual 187, 3) := by decide +kernel
theorem dX10_readsBar_15 : decode cX10_readsBar 15 = .ok (.istore_n 3, 1) := by decide +kernel
theorem dX10_readsBar_16 : decode cX10_readsBar 16 = .ok (.aload_n 0, 1) := by decide +kernel
theorem dX10_readsBar_17 : decode cX10_readsBar 17 = .ok (.iconst 1, 1) := by decide +kernel
theorem dX10_readsBar_18 : decode cX10_readsBar 18 = .ok (.bipush 8, 2) := by decide +kernel
theorem dX10_readsBar_20 : decode cX10_readsBar 20 = .ok (.iload_n 2, 1) := by decide +kernel
theorem dX10_readsBar_21 : decode cX10_readsBar 21 = .ok (.isub, 1) := by decide +kernel
theorem dX10_readsBar_22 : decode cX10_readsBar 22 = .ok (.invokevirtual 187, 3) := by decide +kernel
theorem dX10_readsBar_25 : decode cX10_readsBar 25 = .ok (.istore 4, 2) := by decide +kernel
theorem dX10_readsBar_27 : decode cX10_readsBar 27 = .ok (.aload_n 0, 1) := by decide +kernel
theorem dX10_readsBar_28 : decode cX10_readsBar 28 = .ok (.iconst 1, 1) := by decide +kernel
theorem dX10_readsBar_29 : decode cX10_readsBar 29 = .ok (.bipush 8, 2) := by decide +kernel
theorem dX10_readsBar_31 : decode cX10_readsBar 31 = .ok (.iload_n 3, 1) := by decide +kernel
theorem dX10_readsBar_32 : decode cX10_readsBar 32 = .ok (.isub, 1) := by decide +kernel
theorem dX10_readsBar_33 : decode cX10_readsBar 33 = .ok (.invokevirtual 187, 3) := by decide +kernel
theorem dX10_readsBar_36 : decode cX10_readsBar 36 = .ok (.istore 5, 2) := by decide +kernel
theorem dX10_readsBar_38 : decode cX10_readsBar 38 = .ok (.iload_n 2, 1) := by decide +kernel
theorem dX10_readsBar_39 : decode cX10_readsBar 39 = .ok (.istore 6, 2) := by decide +kernel
theorem dX10_readsBar_41 : decode cX10_readsBar 41 = .ok (.iload 6, 2) := by decide +kernel
theorem dX10_readsBar_43 : decode cX10_readsBar 43 = .ok (.iload_n 2, 1) := by decide +kernel
theorem dX10_readsBar_44 : decode cX10_readsBar 44 = .ok (.iload 4, 2) := by decide +kernel
theorem dX10_readsBar_46 : decode cX10_readsBar 46 = .ok (.iadd, 1) := by decide +kernel
theorem dX10_readsBar_47 : decode cX10_readsBar 47 = .ok (.if_icmp .ge 145, 3) := by decide +kernel
theorem dX10_readsBar_50 : decode cX10_readsBar 50 = .ok (.aload_n 0, 1) := by decide +kernel
theorem dX10_readsBar_51 : decode cX10_readsBar 51 = .ok (.getfield 128, 3) := by decide +kernel
theorem dX10_readsBar_54 : decode cX10_readsBar 54 = .ok (.ifCond .ne 138, 3) := by decide +kernel
theorem dX10_readsBar_57 : decode cX10_readsBar 57 = .ok (.iload_n 3, 1) := by decide +kernel
theorem dX10_readsBar_58 : decode cX10_readsBar 58 = .ok (.istore 7, 2) := by decide +kernel
theorem dX10_readsBar_60 : decode cX10_readsBar 60 = .ok (.iload 7, 2) := by decide +kernel
theorem dX10_readsBar_62 : decode cX10_readsBar 62 = .ok (.iload_n 3, 1) := by decide +kernel
theorem dX10_readsBar_63 : decode cX10_readsBar 63 = .ok (.iload 5, 2) := by decide +kernel
theorem dX10_readsBar_65 : decode cX10_readsBar 65 = .ok (.iadd, 1) := by decide +kernel
theorem dX10_readsBar_66 : decode cX10_readsBar 66 = .ok (.if_icmp .ge 120, 3) := by decide +kernel
theorem dX10_readsBar_69 : decode cX10_readsBar 69 = .ok (.iload 6, 2) := by decide +kernel
theorem dX10_readsBar_71 : decode cX10_readsBar 71 = .ok (.iload_n 2, 1) := by decide +kernel
theorem dX10_readsBar_72 : decode cX10_readsBar 72 = .ok (.if_icmp .eq 31, 3) := by decide +kernel
theorem dX10_readsBar_75 : decode cX10_readsBar 75 = .ok (.iload 7, 2) := by decide +kernel
theorem dX10_readsBar_77 : decode cX10_readsBar 77 = .ok (.iload_n 3, 1) := by decide +kernel
theorem dX10_readsBar_78 : decode cX10_readsBar 78 = .ok (.if_icmp .eq 25, 3) := by decide +kernel
theorem dX10_readsBar_81 : decode cX10_readsBar 81 = .ok (.iload 6, 2) := by decide +kernel
theorem dX10_readsBar_83 : decode cX10_readsBar 83 = .ok (.iload_n 2, 1) := by decide +kernel
theorem dX10_readsBar_84 : decode cX10_readsBar 84 = .ok (.iload 4, 2) := by decide +kernel
theorem dX10_readsBar_86 : decode cX10_readsBar 86 = .ok (.iadd, 1) := by decide +kernel
theorem dX10_readsBar_87 : decode cX10_readsBar 87 = .ok (.iconst 1, 1) := by decide +kernel
theorem dX10_readsBar_88 : decode cX10_readsBar 88 = .ok (.isub, 1) := by decide +kernel
theorem dX10_readsBar_89 : decode cX10_readsBar 89 = .ok (.if_icmp .eq 14, 3) := by decide +kernel
theorem dX10_readsBar_92 : decode cX10_readsBar 92 = .ok (.iload 7, 2) := by decide +kernel
theorem dX10_readsBar_94 : decode cX10_readsBar 94 = .ok (.iload_n 3, 1) := by decide +kernel
theorem dX10_readsBar_95 : decode cX10_readsBar 95 = .ok (.iload 5, 2) := by decide +kernel
theorem dX10_readsBar_97 : decode cX10_readsBar 97 = .ok (.iadd, 1) := by decide +kernel
theorem dX10_readsBar_98 : decode cX10_readsBar 98 = .ok (.iconst 1, 1) := by decide +kernel
theorem dX10_readsBar_99 : decode cX10_readsBar 99 = .ok (.isub, 1) := by decide +kernel
theorem dX10_readsBar_100 : decode cX10_readsBar 100 = .ok (.if_icmp .ne 7, 3) := by decide +kernel
theorem dX10_readsBar_103 : decode cX10_readsBar 103 = .ok (.iconst 1, 1) := by decide +kernel
theorem dX10_readsBar_104 : decode cX10_readsBar 104 = .ok (.goto 4, 3) := by decide +kernel
theorem dX10_readsBar_107 : decode cX10_readsBar 107 = .ok (.iconst 0, 1) := by decide +kernel
theorem dX10_readsBar_108 : decode cX10_readsBar 108 = .ok (.istore 8, 2) := by decide +kernel
theorem dX10_readsBar_110 : decode cX10_readsBar 110 = .ok (.lconst 1, 1) := by decide +kernel
theorem dX10_readsBar_111 : decode cX10_readsBar 111 = .ok (.bipush 8, 2) := by decide +kernel
theorem dX10_readsBar_113 : decode cX10_readsBar 113 = .ok (.iload 7, 2) := by decide +kernel
theorem dX10_readsBar_115 : decode cX10_readsBar 115 = .ok (.imul, 1) := by decide +kernel
theorem dX10_readsBar_116 : decode cX10_readsBar 116 = .ok (.iload 6, 2) := by decide +kernel
theorem dX10_readsBar_118 : decode cX10_readsBar 118 = .ok (.iadd, 1) := by decide +kernel
theorem dX10_readsBar_119 : decode cX10_readsBar 119 = .ok (.lshl, 1) := by decide +kernel
theorem dX10_readsBar_120 : decode cX10_readsBar 120 = .ok (.lstore 9, 2) := by decide +kernel
theorem dX10_readsBar_122 : decode cX10_readsBar 122 = .ok (.iload_n 1, 1) := by decide +kernel
theorem dX10_readsBar_123 : decode cX10_readsBar 123 = .ok (.iconst 5, 1) := by decide +kernel
theorem dX10_readsBar_124 : decode cX10_readsBar 124 = .ok (.if_icmp .ne 28, 3) := by decide +kernel
theorem dX10_readsBar_127 : decode cX10_readsBar 127 = .ok (.aload_n 0, 1) := by decide +kernel
theorem dX10_readsBar_128 : decode cX10_readsBar 128 = .ok (.getfield 23, 3) := by decide +kernel
theorem dX10_readsBar_131 : decode cX10_readsBar 131 = .ok (.aload_n 0, 1) := by decide +kernel
theorem dX10_readsBar_132 : decode cX10_readsBar 132 = .ok (.getfield 17, 3) := by decide +kernel
theorem dX10_readsBar_135 : decode cX10_readsBar 135 = .ok (.iconst 0, 1) := by decide +kernel
theorem dX10_readsBar_136 : decode cX10_readsBar 136 = .ok (.iaload, 1) := by decide +kernel
theorem dX10_readsBar_137 : decode cX10_readsBar 137 = .ok (.iconst 1, 1) := by decide +kernel
theorem dX10_readsBar_138 : decode cX10_readsBar 138 = .ok (.isub, 1) := by decide +kernel
theorem dX10_readsBar_139 : decode cX10_readsBar 139 = .ok (.dup2, 1) := by decide +kernel
theorem dX10_readsBar_140 : decode cX10_readsBar 140 = .ok (.laload, 1) := by decide +kernel
theorem dX10_readsBar_141 : decode cX10_readsBar 141 = .ok (.lload 9, 2) := by decide +kernel
theorem dX10_readsBar_143 : decode cX10_readsBar 143 = .ok (.ldc2_w 195, 3) := by decide +kernel
theorem dX10_readsBar_146 : decode cX10_readsBar 146 = .ok (.lxor, 1) := by decide +kernel
theorem dX10_readsBar_147 : decode cX10_readsBar 147 = .ok (.land, 1) := by decide +kernel
theorem dX10_readsBar_148 : decode cX10_readsBar 148 = .ok (.lastore, 1) := by decide +kernel
theorem dX10_readsBar_149 : decode cX10_readsBar 149 = .ok (.goto 31, 3) := by decide +kernel
theorem dX10_readsBar_152 : decode cX10_readsBar 152 = .ok (.iload_n 1, 1) := by decide +kernel
theorem dX10_readsBar_153 : decode cX10_readsBar 153 = .ok (.iconst 3, 1) := by decide +kernel
theorem dX10_readsBar_154 : decode cX10_readsBar 154 = .ok (.if_icmp .eq 8, 3) := by decide +kernel
theorem dX10_readsBar_157 : decode cX10_readsBar 157 = .ok (.iload 8, 2) := by decide +kernel
theorem dX10_readsBar_159 : decode cX10_readsBar 159 = .ok (.ifCond .eq 21, 3) := by decide +kernel
theorem dX10_readsBar_162 : decode cX10_readsBar 162 = .ok (.aload_n 0, 1) := by decide +kernel
theorem dX10_readsBar_163 : decode cX10_readsBar 163 = .ok (.getfield 23, 3) := by decide +kernel
theorem dX10_readsBar_166 : decode cX10_readsBar 166 = .ok (.aload_n 0, 1) := by decide +kernel
theorem dX10_readsBar_167 : decode cX10_readsBar 167 = .ok (.getfield 17, 3) := by decide +kernel
theorem dX10_readsBar_170 : decode cX10_readsBar 170 = .ok (.iconst 0, 1) := by decide +kernel
theorem dX10_readsBar_171 : decode cX10_readsBar 171 = .ok (.iaload, 1) := by decide +kernel
theorem dX10_readsBar_172 : decode cX10_readsBar 172 = .ok (.iconst 1, 1) := by decide +kernel
theorem dX10_readsBar_173 : decode cX10_readsBar 173 = .ok (.isub, 1) := by decide +kernel
theorem dX10_readsBar_174 : decode cX10_readsBar 174 = .ok (.dup2, 1) := by decide +kernel
theorem dX10_readsBar_175 : decode cX10_readsBar 175 = .ok (.laload, 1) := by decide +kernel
theorem dX10_readsBar_176 : decode cX10_readsBar 176 = .ok (.lload 9, 2) := by decide +kernel
theorem dX10_readsBar_178 : decode cX10_readsBar 178 = .ok (.lor, 1) := by decide +kernel
theorem dX10_readsBar_179 : decode cX10_readsBar 179 = .ok (.lastore, 1) := by decide +kernel
theorem dX10_readsBar_180 : decode cX10_readsBar 180 = .ok (.iinc 7 1, 3) := by decide +kernel
theorem dX10_readsBar_183 : decode cX10_readsBar 183 = .ok (.goto (-123), 3) := by decide +kernel
theorem dX10_readsBar_186 : decode cX10_readsBar 186 = .ok (.iinc 6 1, 3) := by decide +kernel
theorem dX10_readsBar_189 : decode cX10_readsBar 189 = .ok (.goto (-148), 3) := by decide +kernel
theorem dX10_readsBar_192 : decode cX10_readsBar 192 = .ok (.return_, 1) := by decide +kernel
theorem dX10_readsWord_0 : decode cX10_readsWord 0 = .ok (.aload_n 0, 1) := by decide +kernel
theorem dX10_readsWord_1 : decode cX10_readsWord 1 = .ok (.invokevirtual 134, 3) := by decide +kernel
theorem dX10_readsWord_4 : decode cX10_readsWord 4 = .ok (.aload_n 0, 1) := by decide +kernel
theorem dX10_readsWord_5 : decode cX10_readsWord 5 = .ok (.getfield 121, 3) := by decide +kernel
theorem dX10_readsWord_8 : decode cX10_readsWord 8 = .ok (.istore_n 1, 1) := by decide +kernel
theorem dX10_readsWord_9 : decode cX10_readsWord 9 = .ok (.iconst 0, 1) := by decide +kernel
theorem dX10_readsWord_10 : decode cX10_readsWord 10 = .ok (.istore_n 2, 1) := by decide +kernel
theorem dX10_readsWord_11 : decode cX10_readsWord 11 = .ok (.iconst 1, 1) := by decide +kernel
theorem dX10_readsWord_12 : decode cX10_readsWord 12 = .ok (.istore_n 3, 1) := by decide +kernel
theorem dX10_readsWord_13 : decode cX10_readsWord 13 = .ok (.aload_n 0, 1) := by decide +kernel
theorem dX10_readsWord_14 : decode cX10_readsWord 14 = .ok (.aload_n 0, 1) := by decide +kernel
theorem dX10_readsWord_15 : decode cX10_readsWord 15 = .ok (.getfield 121, 3) := by decide +kernel
theorem dX10_readsWord_18 : decode cX10_readsWord 18 = .ok (.invokevirtual 124, 3) := by decide +kernel
theorem dX10_readsWord_21 : decode cX10_readsWord 21 = .ok (.invokestatic 137, 3) := by decide +kernel
theorem dX10_readsWord_24 : decode cX10_readsWord 24 = .ok (.ifCond .ne 12, 3) := by decide +kernel
theorem dX10_readsWord_27 : decode cX10_readsWord 27 = .ok (.aload_n 0, 1) := by decide +kernel
theorem dX10_readsWord_28 : decode cX10_readsWord 28 = .ok (.iconst 1, 1) := by decide +kernel
theorem dX10_readsWord_29 : decode cX10_readsWord 29 = .ok (.aload_n 0, 1) := by decide +kernel
theorem dX10_readsWord_30 : decode cX10_readsWord 30 = .ok (.getfield 121, 3) := by decide +kernel
theorem dX10_readsWord_33 : decode cX10_readsWord 33 = .ok (.invokevirtual 141, 3) := by decide +kernel
theorem dX10_readsWord_36 : decode cX10_readsWord 36 = .ok (.aload_n 0, 1) := by decide +kernel
theorem dX10_readsWord_37 : decode cX10_readsWord 37 = .ok (.aload_n 0, 1) := by decide +kernel
theorem dX10_readsWord_38 : decode cX10_readsWord 38 = .ok (.getfield 121, 3) := by decide +kernel
theorem dX10_readsWord_41 : decode cX10_readsWord 41 = .ok (.invokevirtual 124, 3) := by decide +kernel
theorem dX10_readsWord_44 : decode cX10_readsWord 44 = .ok (.invokestatic 137, 3) := by decide +kernel
theorem dX10_readsWord_47 : decode cX10_readsWord 47 = .ok (.ifCond .eq 80, 3) := by decide +kernel
theorem dX10_readsWord_50 : decode cX10_readsWord 50 = .ok (.aload_n 0, 1) := by decide +kernel
theorem dX10_readsWord_51 : decode cX10_readsWord 51 = .ok (.aload_n 0, 1) := by decide +kernel
theorem dX10_readsWord_52 : decode cX10_readsWord 52 = .ok (.getfield 121, 3) := by decide +kernel
theorem dX10_readsWord_55 : decode cX10_readsWord 55 = .ok (.invokevirtual 124, 3) := by decide +kernel
theorem dX10_readsWord_58 : decode cX10_readsWord 58 = .ok (.bipush 48, 2) := by decide +kernel
theorem dX10_readsWord_60 : decode cX10_readsWord 60 = .ok (.isub, 1) := by decide +kernel
theorem dX10_readsWord_61 : decode cX10_readsWord 61 = .ok (.istore 4, 2) := by decide +kernel
theorem dX10_readsWord_63 : decode cX10_readsWord 63 = .ok (.iload_n 3, 1) := by decide +kernel
theorem dX10_readsWord_64 : decode cX10_readsWord 64 = .ok (.ifCond .eq 24, 3) := by decide +kernel
theorem dX10_readsWord_67 : decode cX10_readsWord 67 = .ok (.iload_n 2, 1) := by decide +kernel
theorem dX10_readsWord_68 : decode cX10_readsWord 68 = .ok (.bipush 8, 2) := by decide +kernel
theorem dX10_readsWord_70 : decode cX10_readsWord 70 = .ok (.if_icmp .ge 18, 3) := by decide +kernel
theorem dX10_readsWord_73 : decode cX10_readsWord 73 = .ok (.iload 4, 2) := by decide +kernel
theorem dX10_readsWord_75 : decode cX10_readsWord 75 = .ok (.aload_n 0, 1) := by decide +kernel
theorem dX10_readsWord_76 : decode cX10_readsWord 76 = .ok (.getfield 17, 3) := by decide +kernel
theorem dX10_readsWord_79 : decode cX10_readsWord 79 = .ok (.iconst 0, 1) := by decide +kernel
theorem dX10_readsWord_80 : decode cX10_readsWord 80 = .ok (.iaload, 1) := by decide +kernel
theorem dX10_readsWord_81 : decode cX10_readsWord 81 = .ok (.if_icmp .ge 7, 3) := by decide +kernel
theorem dX10_readsWord_84 : decode cX10_readsWord 84 = .ok (.iconst 1, 1) := by decide +kernel
theorem dX10_readsWord_85 : decode cX10_readsWord 85 = .ok (.goto 4, 3) := by decide +kernel
theorem dX10_readsWord_88 : decode cX10_readsWord 88 = .ok (.iconst 0, 1) := by decide +kernel
theorem dX10_readsWord_89 : decode cX10_readsWord 89 = .ok (.istore_n 3, 1) := by decide +kernel
theorem dX10_readsWord_90 : decode cX10_readsWord 90 = .ok (.iload_n 2, 1) := by decide +kernel
theorem dX10_readsWord_91 : decode cX10_readsWord 91 = .ok (.bipush 8, 2) := by decide +kernel
theorem dX10_readsWord_93 : decode cX10_readsWord 93 = .ok (.if_icmp .ge 18, 3) := by decide +kernel
theorem dX10_readsWord_96 : decode cX10_readsWord 96 = .ok (.aload_n 0, 1) := by decide +kernel
theorem dX10_readsWord_97 : decode cX10_readsWord 97 = .ok (.getfield 32, 3) := by decide +kernel
theorem dX10_readsWord_100 : decode cX10_readsWord 100 = .ok (.aload_n 0, 1) := by decide +kernel
theorem dX10_readsWord_101 : decode cX10_readsWord 101 = .ok (.getfield 17, 3) := by decide +kernel
theorem dX10_readsWord_104 : decode cX10_readsWord 104 = .ok (.iconst 1, 1) := by decide +kernel
theorem dX10_readsWord_105 : decode cX10_readsWord 105 = .ok (.iaload, 1) := by decide +kernel
theorem dX10_readsWord_106 : decode cX10_readsWord 106 = .ok (.aaload, 1) := by decide +kernel
theorem dX10_readsWord_107 : decode cX10_readsWord 107 = .ok (.iload_n 2, 1) := by decide +kernel
theorem dX10_readsWord_108 : decode cX10_readsWord 108 = .ok (.iload 4, 2) := by decide +kernel
theorem dX10_readsWord_110 : decode cX10_readsWord 110 = .ok (.iastore, 1) := by decide +kernel
theorem dX10_readsWord_111 : decode cX10_readsWord 111 = .ok (.iinc 2 1, 3) := by decide +kernel
theorem dX10_readsWord_114 : decode cX10_readsWord 114 = .ok (.aload_n 0, 1) := by decide +kernel
theorem dX10_readsWord_115 : decode cX10_readsWord 115 = .ok (.dup, 1) := by decide +kernel
theorem dX10_readsWord_116 : decode cX10_readsWord 116 = .ok (.getfield 121, 3) := by decide +kernel
theorem dX10_readsWord_119 : decode cX10_readsWord 119 = .ok (.iconst 1, 1) := by decide +kernel
theorem dX10_readsWord_120 : decode cX10_readsWord 120 = .ok (.iadd, 1) := by decide +kernel
theorem dX10_readsWord_121 : decode cX10_readsWord 121 = .ok (.putfield 121, 3) := by decide +kernel
theorem dX10_readsWord_124 : decode cX10_readsWord 124 = .ok (.goto (-88), 3) := by decide +kernel
theorem dX10_readsWord_127 : decode cX10_readsWord 127 = .ok (.iload_n 3, 1) := by decide +kernel
theorem dX10_readsWord_128 : decode cX10_readsWord 128 = .ok (.ifCond .ne 9, 3) := by decide +kernel
theorem dX10_readsWord_131 : decode cX10_readsWord 131 = .ok (.aload_n 0, 1) := by decide +kernel
theorem dX10_readsWord_132 : decode cX10_readsWord 132 = .ok (.iconst 2, 1) := by decide +kernel
theorem dX10_readsWord_133 : decode cX10_readsWord 133 = .ok (.iload_n 1, 1) := by decide +kernel
theorem dX10_readsWord_134 : decode cX10_readsWord 134 = .ok (.invokevirtual 141, 3) := by decide +kernel
theorem dX10_readsWord_137 : decode cX10_readsWord 137 = .ok (.aload_n 0, 1) := by decide +kernel
theorem dX10_readsWord_138 : decode cX10_readsWord 138 = .ok (.getfield 128, 3) := by decide +kernel
theorem dX10_readsWord_141 : decode cX10_readsWord 141 = .ok (.ifCond .eq 4, 3) := by decide +kernel
theorem dX10_readsWord_144 : decode cX10_readsWord 144 = .ok (.return_, 1) := by decide +kernel
theorem dX10_readsWord_145 : decode cX10_readsWord 145 = .ok (.aload_n 0, 1) := by decide +kernel
theorem dX10_readsWord_146 : decode cX10_readsWord 146 = .ok (.getfield 38, 3) := by decide +kernel
theorem dX10_readsWord_149 : decode cX10_readsWord 149 = .ok (.aload_n 0, 1) := by decide +kernel
theorem dX10_readsWord_150 : decode cX10_readsWord 150 = .ok (.getfield 17, 3) := by decide +kernel
theorem dX10_readsWord_153 : decode cX10_readsWord 153 = .ok (.iconst 1, 1) := by decide +kernel
theorem dX10_readsWord_154 : decode cX10_readsWord 154 = .ok (.iaload, 1) := by decide +kernel
theorem dX10_readsWord_155 : decode cX10_readsWord 155 = .ok (.iload_n 2, 1) := by decide +kernel
theorem dX10_readsWord_156 : decode cX10_readsWord 156 = .ok (.iastore, 1) := by decide +kernel
theorem dX10_readsWord_157 : decode cX10_readsWord 157 = .ok (.aload_n 0, 1) := by decide +kernel
theorem dX10_readsWord_158 : decode cX10_readsWord 158 = .ok (.getfield 17, 3) := by decide +kernel
theorem dX10_readsWord_161 : decode cX10_readsWord 161 = .ok (.iconst 1, 1) := by decide +kernel
theorem dX10_readsWord_162 : decode cX10_readsWord 162 = .ok (.dup2, 1) := by decide +kernel
theorem dX10_readsWord_163 : decode cX10_readsWord 163 = .ok (.iaload, 1) := by decide +kernel
theorem dX10_readsWord_164 : decode cX10_readsWord 164 = .ok (.iconst 1, 1) := by decide +kernel
theorem dX10_readsWord_165 : decode cX10_readsWord 165 = .ok (.iadd, 1) := by decide +kernel
theorem dX10_readsWord_166 : decode cX10_readsWord 166 = .ok (.iastore, 1) := by decide +kernel
theorem dX10_readsWord_167 : decode cX10_readsWord 167 = .ok (.return_, 1) := by decide +kernel
theorem dX10_readsSpread_0 : decode cX10_readsSpread 0 = .ok (.aload_n 0, 1) := by decide +kernel
theorem dX10_readsSpread_1 : decode cX10_readsSpread 1 = .ok (.iconst 1, 1) := by decide +kernel
theorem dX10_readsSpread_2 : decode cX10_readsSpread 2 = .ok (.bipush 9, 2) := by decide +kernel
theorem dX10_readsSpread_4 : decode cX10_readsSpread 4 = .ok (.invokevirtual 187, 3) := by decide +kernel
theorem dX10_readsSpread_7 : decode cX10_readsSpread 7 = .ok (.istore_n 1, 1) := by decide +kernel
theorem dX10_readsSpread_8 : decode cX10_readsSpread 8 = .ok (.aload_n 0, 1) := by decide +kernel
theorem dX10_readsSpread_9 : decode cX10_readsSpread 9 = .ok (.iconst 0, 1) := by decide +kernel
theorem dX10_readsSpread_10 : decode cX10_readsSpread 10 = .ok (.bipush 16, 2) := by decide +kernel
theorem dX10_readsSpread_12 : decode cX10_readsSpread 12 = .ok (.invokevirtual 187, 3) := by decide +kernel
theorem dX10_readsSpread_15 : decode cX10_readsSpread 15 = .ok (.istore_n 2, 1) := by decide +kernel
theorem dX10_readsSpread_16 : decode cX10_readsSpread 16 = .ok (.aload_n 0, 1) := by decide +kernel
theorem dX10_readsSpread_17 : decode cX10_readsSpread 17 = .ok (.getfield 128, 3) := by decide +kernel
theorem dX10_readsSpread_20 : decode cX10_readsSpread 20 = .ok (.ifCond .ne 10, 3) := by decide +kernel
theorem dX10_readsSpread_23 : decode cX10_readsSpread 23 = .ok (.aload_n 0, 1) := by decide +kernel
theorem dX10_readsSpread_24 : decode cX10_readsSpread 24 = .ok (.getfield 44, 3) := by decide +kernel
theorem dX10_readsSpread_27 : decode cX10_readsSpread 27 = .ok (.iload_n 1, 1) := by decide +kernel
theorem dX10_readsSpread_28 : decode cX10_readsSpread 28 = .ok (.iload_n 2, 1) := by decide +kernel
theorem dX10_readsSpread_29 : decode cX10_readsSpread 29 = .ok (.iastore, 1) := by decide +kernel
theorem dX10_readsSpread_30 : decode cX10_readsSpread 30 = .ok (.return_, 1) := by decide +kernel
theorem dX10_sheet_0 : decode cX10_sheet 0 = .ok (.aload_n 0, 1) := by decide +kernel
theorem dX10_sheet_1 : decode cX10_sheet 1 = .ok (.iconst 0, 1) := by decide +kernel
theorem dX10_sheet_2 : decode cX10_sheet 2 = .ok (.putfield 112, 3) := by decide +kernel
theorem dX10_sheet_5 : decode cX10_sheet 5 = .ok (.aload_n 0, 1) := by decide +kernel
theorem dX10_sheet_6 : decode cX10_sheet 6 = .ok (.iload_n 1, 1) := by decide +kernel
theorem dX10_sheet_7 : decode cX10_sheet 7 = .ok (.iconst 0, 1) := by decide +kernel
theorem dX10_sheet_8 : decode cX10_sheet 8 = .ok (.aload_n 0, 1) := by decide +kernel
theorem dX10_sheet_9 : decode cX10_sheet 9 = .ok (.getfield 115, 3) := by decide +kernel
theorem dX10_sheet_12 : decode cX10_sheet 12 = .ok (.invokestatic 146, 3) := by decide +kernel
theorem dX10_sheet_15 : decode cX10_sheet 15 = .ok (.ifCond .ne 7, 3) := by decide +kernel
theorem dX10_sheet_18 : decode cX10_sheet 18 = .ok (.iconst 1, 1) := by decide +kernel
theorem dX10_sheet_19 : decode cX10_sheet 19 = .ok (.goto 4, 3) := by decide +kernel
theorem dX10_sheet_22 : decode cX10_sheet 22 = .ok (.iconst 0, 1) := by decide +kernel
theorem dX10_sheet_23 : decode cX10_sheet 23 = .ok (.iconst 1, 1) := by decide +kernel
theorem dX10_sheet_24 : decode cX10_sheet 24 = .ok (.invokevirtual 197, 3) := by decide +kernel
theorem dX10_sheet_27 : decode cX10_sheet 27 = .ok (.ifCond .eq 5, 3) := by decide +kernel
theorem dX10_sheet_30 : decode cX10_sheet 30 = .ok (.iconst 0, 1) := by decide +kernel
theorem dX10_sheet_31 : decode cX10_sheet 31 = .ok (.ireturn, 1) := by decide +kernel
theorem dX10_sheet_32 : decode cX10_sheet 32 = .ok (.aload_n 0, 1) := by decide +kernel
theorem dX10_sheet_33 : decode cX10_sheet 33 = .ok (.iconst 0, 1) := by decide +kernel
theorem dX10_sheet_34 : decode cX10_sheet 34 = .ok (.putfield 115, 3) := by decide +kernel
theorem dX10_sheet_37 : decode cX10_sheet 37 = .ok (.aload_n 0, 1) := by decide +kernel
theorem dX10_sheet_38 : decode cX10_sheet 38 = .ok (.iload_n 1, 1) := by decide +kernel
theorem dX10_sheet_39 : decode cX10_sheet 39 = .ok (.putfield 118, 3) := by decide +kernel
theorem dX10_sheet_42 : decode cX10_sheet 42 = .ok (.aload_n 0, 1) := by decide +kernel
theorem dX10_sheet_43 : decode cX10_sheet 43 = .ok (.iconst 0, 1) := by decide +kernel
theorem dX10_sheet_44 : decode cX10_sheet 44 = .ok (.putfield 121, 3) := by decide +kernel
theorem dX10_sheet_47 : decode cX10_sheet 47 = .ok (.aload_n 0, 1) := by decide +kernel
theorem dX10_sheet_48 : decode cX10_sheet 48 = .ok (.iconst 0, 1) := by decide +kernel
theorem dX10_sheet_49 : decode cX10_sheet 49 = .ok (.putfield 128, 3) := by decide +kernel
theorem dX10_sheet_52 : decode cX10_sheet 52 = .ok (.aload_n 0, 1) := by decide +kernel
theorem dX10_sheet_53 : decode cX10_sheet 53 = .ok (.iconst (-1), 1) := by decide +kernel
theorem dX10_sheet_54 : decode cX10_sheet 54 = .ok (.putfield 131, 3) := by decide +kernel
theorem dX10_sheet_57 : decode cX10_sheet 57 = .ok (.aload_n 0, 1) := by decide +kernel
theorem dX10_sheet_58 : decode cX10_sheet 58 = .ok (.iconst 0, 1) := by decide +kernel
theorem dX10_sheet_59 : decode cX10_sheet 59 = .ok (.putfield 165, 3) := by decide +kernel
theorem dX10_sheet_62 : decode cX10_sheet 62 = .ok (.aload_n 0, 1) := by decide +kernel
theorem dX10_sheet_63 : decode cX10_sheet 63 = .ok (.getfield 17, 3) := by decide +kernel
theorem dX10_sheet_66 : decode cX10_sheet 66 = .ok (.iconst 0, 1) := by decide +kernel
theorem dX10_sheet_67 : decode cX10_sheet 67 = .ok (.iconst 0, 1) := by decide +kernel
theorem dX10_sheet_68 : decode cX10_sheet 68 = .ok (.iastore, 1) := by decide +kernel
theorem dX10_sheet_69 : decode cX10_sheet 69 = .ok (.aload_n 0, 1) := by decide +kernel
theorem dX10_sheet_70 : decode cX10_sheet 70 = .ok (.getfield 17, 3) := by decide +kernel
theorem dX10_sheet_73 : decode cX10_sheet 73 = .ok (.iconst 1, 1) := by decide +kernel
theorem dX10_sheet_74 : decode cX10_sheet 74 = .ok (.iconst 0, 1) := by decide +kernel
theorem dX10_sheet_75 : decode cX10_sheet 75 = .ok (.iastore, 1) := by decide +kernel
theorem dX10_sheet_76 : decode cX10_sheet 76 = .ok (.iconst 0, 1) := by decide +kernel
theorem dX10_sheet_77 : decode cX10_sheet 77 = .ok (.istore_n 2, 1) := by decide +kernel
theorem dX10_sheet_78 : decode cX10_sheet 78 = .ok (.iload_n 2, 1) := by decide +kernel
theorem dX10_sheet_79 : decode cX10_sheet 79 = .ok (.bipush 10, 2) := by decide +kernel
theorem dX10_sheet_81 : decode cX10_sheet 81 = .ok (.if_icmp .ge 16, 3) := by decide +kernel
theorem dX10_sheet_84 : decode cX10_sheet 84 = .ok (.aload_n 0, 1) := by decide +kernel
theorem dX10_sheet_85 : decode cX10_sheet 85 = .ok (.getfield 44, 3) := by decide +kernel
theorem dX10_sheet_88 : decode cX10_sheet 88 = .ok (.iload_n 2, 1) := by decide +kernel
theorem dX10_sheet_89 : decode cX10_sheet 89 = .ok (.iconst 4, 1) := by decide +kernel
theorem dX10_sheet_90 : decode cX10_sheet 90 = .ok (.iastore, 1) := by decide +kernel
theorem dX10_sheet_91 : decode cX10_sheet 91 = .ok (.iinc 2 1, 3) := by decide +kernel
theorem dX10_sheet_94 : decode cX10_sheet 94 = .ok (.goto (-16), 3) := by decide +kernel
theorem dX10_sheet_97 : decode cX10_sheet 97 = .ok (.aload_n 0, 1) := by decide +kernel
theorem dX10_sheet_98 : decode cX10_sheet 98 = .ok (.invokevirtual 134, 3) := by decide +kernel
theorem dX10_sheet_101 : decode cX10_sheet 101 = .ok (.aload_n 0, 1) := by decide +kernel
theorem dX10_sheet_102 : decode cX10_sheet 102 = .ok (.getfield 128, 3) := by decide +kernel
theorem dX10_sheet_105 : decode cX10_sheet 105 = .ok (.ifCond .ne 25, 3) := by decide +kernel
theorem dX10_sheet_108 : decode cX10_sheet 108 = .ok (.aload_n 0, 1) := by decide +kernel
theorem dX10_sheet_109 : decode cX10_sheet 109 = .ok (.getfield 121, 3) := by decide +kernel
theorem dX10_sheet_112 : decode cX10_sheet 112 = .ok (.aload_n 0, 1) := by decide +kernel
theorem dX10_sheet_113 : decode cX10_sheet 113 = .ok (.getfield 118, 3) := by decide +kernel
theorem dX10_sheet_116 : decode cX10_sheet 116 = .ok (.if_icmp .ge 14, 3) := by decide +kernel
theorem dX10_sheet_119 : decode cX10_sheet 119 = .ok (.aload_n 0, 1) := by decide +kernel
theorem dX10_sheet_120 : decode cX10_sheet 120 = .ok (.invokevirtual 201, 3) := by decide +kernel
theorem dX10_sheet_123 : decode cX10_sheet 123 = .ok (.aload_n 0, 1) := by decide +kernel
theorem dX10_sheet_124 : decode cX10_sheet 124 = .ok (.invokevirtual 134, 3) := by decide +kernel
theorem dX10_sheet_127 : decode cX10_sheet 127 = .ok (.goto (-26), 3) := by decide +kernel
theorem dX10_sheet_130 : decode cX10_sheet 130 = .ok (.aload_n 0, 1) := by decide +kernel
theorem dX10_sheet_131 : decode cX10_sheet 131 = .ok (.aload_n 0, 1) := by decide +kernel
theorem dX10_sheet_132 : decode cX10_sheet 132 = .ok (.getfield 131, 3) := by decide +kernel
theorem dX10_sheet_135 : decode cX10_sheet 135 = .ok (.putfield 9, 3) := by decide +kernel
theorem dX10_sheet_138 : decode cX10_sheet 138 = .ok (.aload_n 0, 1) := by decide +kernel
theorem dX10_sheet_139 : decode cX10_sheet 139 = .ok (.getfield 128, 3) := by decide +kernel
theorem dX10_sheet_142 : decode cX10_sheet 142 = .ok (.ifCond .eq 11, 3) := by decide +kernel
theorem dX10_sheet_145 : decode cX10_sheet 145 = .ok (.aload_n 0, 1) := by decide +kernel
theorem dX10_sheet_146 : decode cX10_sheet 146 = .ok (.getfield 128, 3) := by decide +kernel
theorem dX10_sheet_149 : decode cX10_sheet 149 = .ok (.bipush 10, 2) := by decide +kernel
theorem dX10_sheet_151 : decode cX10_sheet 151 = .ok (.isub, 1) := by decide +kernel
theorem dX10_sheet_152 : decode cX10_sheet 152 = .ok (.ireturn, 1) := by decide +kernel
theorem dX10_sheet_153 : decode cX10_sheet 153 = .ok (.iconst 0, 1) := by decide +kernel
theorem dX10_sheet_154 : decode cX10_sheet 154 = .ok (.istore_n 2, 1) := by decide +kernel
theorem dX10_sheet_155 : decode cX10_sheet 155 = .ok (.iload_n 2, 1) := by decide +kernel
theorem dX10_sheet_156 : decode cX10_sheet 156 = .ok (.iconst 2, 1) := by decide +kernel
theorem dX10_sheet_157 : decode cX10_sheet 157 = .ok (.if_icmp .ge 21, 3) := by decide +kernel
theorem dX10_sheet_160 : decode cX10_sheet 160 = .ok (.aload_n 0, 1) := by decide +kernel
theorem dX10_sheet_161 : decode cX10_sheet 161 = .ok (.getfield 20, 3) := by decide +kernel
theorem dX10_sheet_164 : decode cX10_sheet 164 = .ok (.iload_n 2, 1) := by decide +kernel
theorem dX10_sheet_165 : decode cX10_sheet 165 = .ok (.aload_n 0, 1) := by decide +kernel
theorem dX10_sheet_166 : decode cX10_sheet 166 = .ok (.getfield 17, 3) := by decide +kernel
theorem dX10_sheet_169 : decode cX10_sheet 169 = .ok (.iload_n 2, 1) := by decide +kernel
theorem dX10_sheet_170 : decode cX10_sheet 170 = .ok (.iaload, 1) := by decide +kernel
theorem dX10_sheet_171 : decode cX10_sheet 171 = .ok (.iastore, 1) := by decide +kernel
theorem dX10_sheet_172 : decode cX10_sheet 172 = .ok (.iinc 2 1, 3) := by decide +kernel
theorem dX10_sheet_175 : decode cX10_sheet 175 = .ok (.goto (-20), 3) := by decide +kernel
theorem dX10_sheet_178 : decode cX10_sheet 178 = .ok (.iconst 0, 1) := by decide +kernel
theorem dX10_sheet_179 : decode cX10_sheet 179 = .ok (.istore_n 2, 1) := by decide +kernel
theorem dX10_sheet_180 : decode cX10_sheet 180 = .ok (.iload_n 2, 1) := by decide +kernel
theorem dX10_sheet_181 : decode cX10_sheet 181 = .ok (.bipush 10, 2) := by decide +kernel
theorem dX10_sheet_183 : decode cX10_sheet 183 = .ok (.if_icmp .ge 21, 3) := by decide +kernel
theorem dX10_sheet_186 : decode cX10_sheet 186 = .ok (.aload_n 0, 1) := by decide +kernel
theorem dX10_sheet_187 : decode cX10_sheet 187 = .ok (.getfield 27, 3) := by decide +kernel
theorem dX10_sheet_190 : decode cX10_sheet 190 = .ok (.iload_n 2, 1) := by decide +kernel
theorem dX10_sheet_191 : decode cX10_sheet 191 = .ok (.aload_n 0, 1) := by decide +kernel
theorem dX10_sheet_192 : decode cX10_sheet 192 = .ok (.getfield 23, 3) := by decide +kernel
theorem dX10_sheet_195 : decode cX10_sheet 195 = .ok (.iload_n 2, 1) := by decide +kernel
theorem dX10_sheet_196 : decode cX10_sheet 196 = .ok (.laload, 1) := by decide +kernel
theorem dX10_sheet_197 : decode cX10_sheet 197 = .ok (.lastore, 1) := by decide +kernel
theorem dX10_sheet_198 : decode cX10_sheet 198 = .ok (.iinc 2 1, 3) := by decide +kernel
theorem dX10_sheet_201 : decode cX10_sheet 201 = .ok (.goto (-21), 3) := by decide +kernel
theorem dX10_sheet_204 : decode cX10_sheet 204 = .ok (.iconst 0, 1) := by decide +kernel
theorem dX10_sheet_205 : decode cX10_sheet 205 = .ok (.istore_n 2, 1) := by decide +kernel
theorem dX10_sheet_206 : decode cX10_sheet 206 = .ok (.iload_n 2, 1) := by decide +kernel
theorem dX10_sheet_207 : decode cX10_sheet 207 = .ok (.bipush 6, 2) := by decide +kernel
theorem dX10_sheet_209 : decode cX10_sheet 209 = .ok (.if_icmp .ge 51, 3) := by decide +kernel
theorem dX10_sheet_212 : decode cX10_sheet 212 = .ok (.aload_n 0, 1) := by decide +kernel
theorem dX10_sheet_213 : decode cX10_sheet 213 = .ok (.getfield 41, 3) := by decide +kernel
theorem dX10_sheet_216 : decode cX10_sheet 216 = .ok (.iload_n 2, 1) := by decide +kernel
theorem dX10_sheet_217 : decode cX10_sheet 217 = .ok (.aload_n 0, 1) := by decide +kernel
theorem dX10_sheet_218 : decode cX10_sheet 218 = .ok (.getfield 38, 3) := by decide +kernel
theorem dX10_sheet_221 : decode cX10_sheet 221 = .ok (.iload_n 2, 1) := by decide +kernel
theorem dX10_sheet_222 : decode cX10_sheet 222 = .ok (.iaload, 1) := by decide +kernel
theorem dX10_sheet_223 : decode cX10_sheet 223 = .ok (.iastore, 1) := by decide +kernel
theorem dX10_sheet_224 : decode cX10_sheet 224 = .ok (.iconst 0, 1) := by decide +kernel
theorem dX10_sheet_225 : decode cX10_sheet 225 = .ok (.istore_n 3, 1) := by decide +kernel
theorem dX10_sheet_226 : decode cX10_sheet 226 = .ok (.iload_n 3, 1) := by decide +kernel
theorem dX10_sheet_227 : decode cX10_sheet 227 = .ok (.bipush 8, 2) := by decide +kernel
theorem dX10_sheet_229 : decode cX10_sheet 229 = .ok (.if_icmp .ge 25, 3) := by decide +kernel
theorem dX10_sheet_232 : decode cX10_sheet 232 = .ok (.aload_n 0, 1) := by decide +kernel
theorem dX10_sheet_233 : decode cX10_sheet 233 = .ok (.getfield 35, 3) := by decide +kernel
theorem dX10_sheet_236 : decode cX10_sheet 236 = .ok (.iload_n 2, 1) := by decide +kernel
theorem dX10_sheet_237 : decode cX10_sheet 237 = .ok (.aaload, 1) := by decide +kernel
theorem dX10_sheet_238 : decode cX10_sheet 238 = .ok (.iload_n 3, 1) := by decide +kernel
theorem dX10_sheet_239 : decode cX10_sheet 239 = .ok (.aload_n 0, 1) := by decide +kernel
theorem dX10_sheet_240 : decode cX10_sheet 240 = .ok (.getfield 32, 3) := by decide +kernel
theorem dX10_sheet_243 : decode cX10_sheet 243 = .ok (.iload_n 2, 1) := by decide +kernel
theorem dX10_sheet_244 : decode cX10_sheet 244 = .ok (.aaload, 1) := by decide +kernel
theorem dX10_sheet_245 : decode cX10_sheet 245 = .ok (.iload_n 3, 1) := by decide +kernel
theorem dX10_sheet_246 : decode cX10_sheet 246 = .ok (.iaload, 1) := by decide +kernel
theorem dX10_sheet_247 : decode cX10_sheet 247 = .ok (.iastore, 1) := by decide +kernel
theorem dX10_sheet_248 : decode cX10_sheet 248 = .ok (.iinc 3 1, 3) := by decide +kernel
theorem dX10_sheet_251 : decode cX10_sheet 251 = .ok (.goto (-25), 3) := by decide +kernel
theorem dX10_sheet_254 : decode cX10_sheet 254 = .ok (.iinc 2 1, 3) := by decide +kernel
theorem dX10_sheet_257 : decode cX10_sheet 257 = .ok (.goto (-51), 3) := by decide +kernel
theorem dX10_sheet_260 : decode cX10_sheet 260 = .ok (.iconst 0, 1) := by decide +kernel
theorem dX10_sheet_261 : decode cX10_sheet 261 = .ok (.istore_n 2, 1) := by decide +kernel
theorem dX10_sheet_262 : decode cX10_sheet 262 = .ok (.iload_n 2, 1) := by decide +kernel
theorem dX10_sheet_263 : decode cX10_sheet 263 = .ok (.bipush 10, 2) := by decide +kernel
theorem dX10_sheet_265 : decode cX10_sheet 265 = .ok (.if_icmp .ge 21, 3) := by decide +kernel
theorem dX10_sheet_268 : decode cX10_sheet 268 = .ok (.aload_n 0, 1) := by decide +kernel
theorem dX10_sheet_269 : decode cX10_sheet 269 = .ok (.getfield 47, 3) := by decide +kernel
theorem dX10_sheet_272 : decode cX10_sheet 272 = .ok (.iload_n 2, 1) := by decide +kernel
theorem dX10_sheet_273 : decode cX10_sheet 273 = .ok (.aload_n 0, 1) := by decide +kernel
theorem dX10_sheet_274 : decode cX10_sheet 274 = .ok (.getfield 44, 3) := by decide +kernel
theorem dX10_sheet_277 : decode cX10_sheet 277 = .ok (.iload_n 2, 1) := by decide +kernel
theorem dX10_sheet_278 : decode cX10_sheet 278 = .ok (.iaload, 1) := by decide +kernel
theorem dX10_sheet_279 : decode cX10_sheet 279 = .ok (.iastore, 1) := by decide +kernel
theorem dX10_sheet_280 : decode cX10_sheet 280 = .ok (.iinc 2 1, 3) := by decide +kernel
theorem dX10_sheet_283 : decode cX10_sheet 283 = .ok (.goto (-21), 3) := by decide +kernel
theorem dX10_sheet_286 : decode cX10_sheet 286 = .ok (.aload_n 0, 1) := by decide +kernel
theorem dX10_sheet_287 : decode cX10_sheet 287 = .ok (.invokevirtual 204, 3) := by decide +kernel
theorem dX10_sheet_290 : decode cX10_sheet 290 = .ok (.aload_n 0, 1) := by decide +kernel
theorem dX10_sheet_291 : decode cX10_sheet 291 = .ok (.iconst (-1), 1) := by decide +kernel
theorem dX10_sheet_292 : decode cX10_sheet 292 = .ok (.putfield 56, 3) := by decide +kernel
theorem dX10_sheet_295 : decode cX10_sheet 295 = .ok (.aload_n 0, 1) := by decide +kernel
theorem dX10_sheet_296 : decode cX10_sheet 296 = .ok (.lconst 0, 1) := by decide +kernel
theorem dX10_sheet_297 : decode cX10_sheet 297 = .ok (.putfield 207, 3) := by decide +kernel
theorem dX10_sheet_300 : decode cX10_sheet 300 = .ok (.aload_n 0, 1) := by decide +kernel
theorem dX10_sheet_301 : decode cX10_sheet 301 = .ok (.iconst 0, 1) := by decide +kernel
theorem dX10_sheet_302 : decode cX10_sheet 302 = .ok (.putfield 211, 3) := by decide +kernel
theorem dX10_sheet_305 : decode cX10_sheet 305 = .ok (.aload_n 0, 1) := by decide +kernel
theorem dX10_sheet_306 : decode cX10_sheet 306 = .ok (.iconst 0, 1) := by decide +kernel
theorem dX10_sheet_307 : decode cX10_sheet 307 = .ok (.putfield 214, 3) := by decide +kernel
theorem dX10_sheet_310 : decode cX10_sheet 310 = .ok (.aload_n 0, 1) := by decide +kernel
theorem dX10_sheet_311 : decode cX10_sheet 311 = .ok (.iconst 0, 1) := by decide +kernel
theorem dX10_sheet_312 : decode cX10_sheet 312 = .ok (.putfield 217, 3) := by decide +kernel
theorem dX10_sheet_315 : decode cX10_sheet 315 = .ok (.aload_n 0, 1) := by decide +kernel
theorem dX10_sheet_316 : decode cX10_sheet 316 = .ok (.iconst 0, 1) := by decide +kernel
theorem dX10_sheet_317 : decode cX10_sheet 317 = .ok (.putfield 220, 3) := by decide +kernel
theorem dX10_sheet_320 : decode cX10_sheet 320 = .ok (.aload_n 0, 1) := by decide +kernel
theorem dX10_sheet_321 : decode cX10_sheet 321 = .ok (.getfield 20, 3) := by decide +kernel
theorem dX10_sheet_324 : decode cX10_sheet 324 = .ok (.iconst 0, 1) := by decide +kernel
theorem dX10_sheet_325 : decode cX10_sheet 325 = .ok (.iaload, 1) := by decide +kernel
theorem dX10_sheet_326 : decode cX10_sheet 326 = .ok (.ireturn, 1) := by decide +kernel
theorem dX10_fault_0 : decode cX10_fault 0 = .ok (.aload_n 0, 1) := by decide +kernel
theorem dX10_fault_1 : decode cX10_fault 1 = .ok (.iconst 0, 1) := by decide +kernel
theorem dX10_fault_2 : decode cX10_fault 2 = .ok (.putfield 112, 3) := by decide +kernel
theorem dX10_fault_5 : decode cX10_fault 5 = .ok (.aload_n 0, 1) := by decide +kernel
theorem dX10_fault_6 : decode cX10_fault 6 = .ok (.getfield 9, 3) := by decide +kernel
theorem dX10_fault_9 : decode cX10_fault 9 = .ok (.ireturn, 1) := by decide +kernel
theorem dX10_is_0 : decode cX10_is 0 = .ok (.lload_n 0, 1) := by decide +kernel
theorem dX10_is_1 : decode cX10_is 1 = .ok (.iload_n 2, 1) := by decide +kernel
theorem dX10_is_2 : decode cX10_is 2 = .ok (.lushr, 1) := by decide +kernel
theorem dX10_is_3 : decode cX10_is 3 = .ok (.lconst 1, 1) := by decide +kernel
theorem dX10_is_4 : decode cX10_is 4 = .ok (.land, 1) := by decide +kernel
theorem dX10_is_5 : decode cX10_is 5 = .ok (.lconst 1, 1) := by decide +kernel
theorem dX10_is_6 : decode cX10_is 6 = .ok (.lcmp, 1) := by decide +kernel
theorem dX10_is_7 : decode cX10_is 7 = .ok (.ifCond .ne 7, 3) := by decide +kernel
theorem dX10_is_10 : decode cX10_is 10 = .ok (.iconst 1, 1) := by decide +kernel
theorem dX10_is_11 : decode cX10_is 11 = .ok (.goto 4, 3) := by decide +kernel
theorem dX10_is_14 : decode cX10_is 14 = .ok (.iconst 0, 1) := by decide +kernel
theorem dX10_is_15 : decode cX10_is 15 = .ok (.ireturn, 1) := by decide +kernel
theorem dX10_ones_0 : decode cX10_ones 0 = .ok (.iconst 0, 1) := by decide +kernel
theorem dX10_ones_1 : decode cX10_ones 1 = .ok (.istore_n 2, 1) := by decide +kernel
theorem dX10_ones_2 : decode cX10_ones 2 = .ok (.iconst 0, 1) := by decide +kernel
theorem dX10_ones_3 : decode cX10_ones 3 = .ok (.istore_n 3, 1) := by decide +kernel
theorem dX10_ones_4 : decode cX10_ones 4 = .ok (.iload_n 3, 1) := by decide +kernel
theorem dX10_ones_5 : decode cX10_ones 5 = .ok (.bipush 64, 2) := by decide +kernel
theorem dX10_ones_7 : decode cX10_ones 7 = .ok (.if_icmp .ge 25, 3) := by decide +kernel
theorem dX10_ones_10 : decode cX10_ones 10 = .ok (.iload_n 2, 1) := by decide +kernel
theorem dX10_ones_11 : decode cX10_ones 11 = .ok (.lload_n 0, 1) := by decide +kernel
theorem dX10_ones_12 : decode cX10_ones 12 = .ok (.iload_n 3, 1) := by decide +kernel
theorem dX10_ones_13 : decode cX10_ones 13 = .ok (.invokestatic 191, 3) := by decide +kernel
theorem dX10_ones_16 : decode cX10_ones 16 = .ok (.ifCond .eq 7, 3) := by decide +kernel
theorem dX10_ones_19 : decode cX10_ones 19 = .ok (.iconst 1, 1) := by decide +kernel
theorem dX10_ones_20 : decode cX10_ones 20 = .ok (.goto 4, 3) := by decide +kernel
theorem dX10_ones_23 : decode cX10_ones 23 = .ok (.iconst 0, 1) := by decide +kernel
theorem dX10_ones_24 : decode cX10_ones 24 = .ok (.iadd, 1) := by decide +kernel
theorem dX10_ones_25 : decode cX10_ones 25 = .ok (.istore_n 2, 1) := by decide +kernel
theorem dX10_ones_26 : decode cX10_ones 26 = .ok (.iinc 3 1, 3) := by decide +kernel
theorem dX10_ones_29 : decode cX10_ones 29 = .ok (.goto (-25), 3) := by decide +kernel
theorem dX10_ones_32 : decode cX10_ones 32 = .ok (.iload_n 2, 1) := by decide +kernel
theorem dX10_ones_33 : decode cX10_ones 33 = .ok (.ireturn, 1) := by decide +kernel
theorem dX10_isOpen_0 : decode cX10_isOpen 0 = .ok (.iload_n 2, 1) := by decide +kernel
theorem dX10_isOpen_1 : decode cX10_isOpen 1 = .ok (.bipush 8, 2) := by decide +kernel
theorem dX10_isOpen_3 : decode cX10_isOpen 3 = .ok (.irem, 1) := by decide +kernel
theorem dX10_isOpen_4 : decode cX10_isOpen 4 = .ok (.istore 5, 2) := by decide +kernel
theorem dX10_isOpen_6 : decode cX10_isOpen 6 = .ok (.iload_n 2, 1) := by decide +kernel
theorem dX10_isOpen_7 : decode cX10_isOpen 7 = .ok (.bipush 8, 2) := by decide +kernel
theorem dX10_isOpen_9 : decode cX10_isOpen 9 = .ok (.idiv, 1) := by decide +kernel
theorem dX10_isOpen_10 : decode cX10_isOpen 10 = .ok (.istore 6, 2) := by decide +kernel
theorem dX10_isOpen_12 : decode cX10_isOpen 12 = .ok (.iload 5, 2) := by decide +kernel
theorem dX10_isOpen_14 : decode cX10_isOpen 14 = .ok (.iconst 0, 1) := by decide +kernel
theorem dX10_isOpen_15 : decode cX10_isOpen 15 = .ok (.bipush 7, 2) := by decide +kernel
theorem dX10_isOpen_17 : decode cX10_isOpen 17 = .ok (.invokestatic 146, 3) := by decide +kernel
theorem dX10_isOpen_20 : decode cX10_isOpen 20 = .ok (.ifCond .eq 47, 3) := by decide +kernel
theorem dX10_isOpen_23 : decode cX10_isOpen 23 = .ok (.iload 6, 2) := by decide +kernel
theorem dX10_isOpen_25 : decode cX10_isOpen 25 = .ok (.iconst 0, 1) := by decide +kernel
theorem dX10_isOpen_26 : decode cX10_isOpen 26 = .ok (.bipush 7, 2) := by decide +kernel
theorem dX10_isOpen_28 : decode cX10_isOpen 28 = .ok (.invokestatic 146, 3) := by decide +kernel
theorem dX10_isOpen_31 : decode cX10_isOpen 31 = .ok (.ifCond .eq 36, 3) := by decide +kernel
theorem dX10_isOpen_34 : decode cX10_isOpen 34 = .ok (.lload_n 0, 1) := by decide +kernel
theorem dX10_isOpen_35 : decode cX10_isOpen 35 = .ok (.bipush 8, 2) := by decide +kernel
theorem dX10_isOpen_37 : decode cX10_isOpen 37 = .ok (.iload 6, 2) := by decide +kernel
theorem dX10_isOpen_39 : decode cX10_isOpen 39 = .ok (.imul, 1) := by decide +kernel
theorem dX10_isOpen_40 : decode cX10_isOpen 40 = .ok (.iload 5, 2) := by decide +kernel
theorem dX10_isOpen_42 : decode cX10_isOpen 42 = .ok (.iadd, 1) := by decide +kernel
theorem dX10_isOpen_43 : decode cX10_isOpen 43 = .ok (.invokestatic 191, 3) := by decide +kernel
theorem dX10_isOpen_46 : decode cX10_isOpen 46 = .ok (.ifCond .eq 5, 3) := by decide +kernel
theorem dX10_isOpen_49 : decode cX10_isOpen 49 = .ok (.iconst 0, 1) := by decide +kernel
theorem dX10_isOpen_50 : decode cX10_isOpen 50 = .ok (.ireturn, 1) := by decide +kernel
theorem dX10_isOpen_51 : decode cX10_isOpen 51 = .ok (.iload 5, 2) := by decide +kernel
theorem dX10_isOpen_53 : decode cX10_isOpen 53 = .ok (.iload_n 3, 1) := by decide +kernel
theorem dX10_isOpen_54 : decode cX10_isOpen 54 = .ok (.iadd, 1) := by decide +kernel
theorem dX10_isOpen_55 : decode cX10_isOpen 55 = .ok (.istore 5, 2) := by decide +kernel
theorem dX10_isOpen_57 : decode cX10_isOpen 57 = .ok (.iload 6, 2) := by decide +kernel
theorem dX10_isOpen_59 : decode cX10_isOpen 59 = .ok (.iload 4, 2) := by decide +kernel
theorem dX10_isOpen_61 : decode cX10_isOpen 61 = .ok (.iadd, 1) := by decide +kernel
theorem dX10_isOpen_62 : decode cX10_isOpen 62 = .ok (.istore 6, 2) := by decide +kernel
theorem dX10_isOpen_64 : decode cX10_isOpen 64 = .ok (.goto (-52), 3) := by decide +kernel
theorem dX10_isOpen_67 : decode cX10_isOpen 67 = .ok (.iconst 1, 1) := by decide +kernel
theorem dX10_isOpen_68 : decode cX10_isOpen 68 = .ok (.ireturn, 1) := by decide +kernel
theorem dX10_reached_0 : decode cX10_reached 0 = .ok (.lconst 0, 1) := by decide +kernel
theorem dX10_reached_1 : decode cX10_reached 1 = .ok (.lstore_n 2, 1) := by decide +kernel
theorem dX10_reached_2 : decode cX10_reached 2 = .ok (.iconst 0, 1) := by decide +kernel
theorem dX10_reached_3 : decode cX10_reached 3 = .ok (.istore 4, 2) := by decide +kernel
theorem dX10_reached_5 : decode cX10_reached 5 = .ok (.iload 4, 2) := by decide +kernel
theorem dX10_reached_7 : decode cX10_reached 7 = .ok (.bipush 64, 2) := by decide +kernel
theorem dX10_reached_9 : decode cX10_reached 9 = .ok (.if_icmp .ge 60, 3) := by decide +kernel
theorem dX10_reached_12 : decode cX10_reached 12 = .ok (.lload_n 0, 1) := by decide +kernel
theorem dX10_reached_13 : decode cX10_reached 13 = .ok (.iload 4, 2) := by decide +kernel
theorem dX10_reached_15 : decode cX10_reached 15 = .ok (.iconst 1, 1) := by decide +kernel
theorem dX10_reached_16 : decode cX10_reached 16 = .ok (.iconst 0, 1) := by decide +kernel
theorem dX10_reached_17 : decode cX10_reached 17 = .ok (.invokestatic 223, 3) := by decide +kernel
theorem dX10_reached_20 : decode cX10_reached 20 = .ok (.ifCond .ne 36, 3) := by decide +kernel
theorem dX10_reached_23 : decode cX10_reached 23 = .ok (.lload_n 0, 1) := by decide +kernel
theorem dX10_reached_24 : decode cX10_reached 24 = .ok (.iload 4, 2) := by decide +kernel
theorem dX10_reached_26 : decode cX10_reached 26 = .ok (.iconst (-1), 1) := by decide +kernel
theorem dX10_reached_27 : decode cX10_reached 27 = .ok (.iconst 0, 1) := by decide +kernel
theorem dX10_reached_28 : decode cX10_reached 28 = .ok (.invokestatic 223, 3) := by decide +kernel
theorem dX10_reached_31 : decode cX10_reached 31 = .ok (.ifCond .ne 25, 3) := by decide +kernel
theorem dX10_reached_34 : decode cX10_reached 34 = .ok (.lload_n 0, 1) := by decide +kernel
theorem dX10_reached_35 : decode cX10_reached 35 = .ok (.iload 4, 2) := by decide +kernel
theorem dX10_reached_37 : decode cX10_reached 37 = .ok (.iconst 0, 1) := by decide +kernel
theorem dX10_reached_38 : decode cX10_reached 38 = .ok (.iconst 1, 1) := by decide +kernel
theorem dX10_reached_39 : decode cX10_reached 39 = .ok (.invokestatic 223, 3) := by decide +kernel
theorem dX10_reached_42 : decode cX10_reached 42 = .ok (.ifCond .ne 14, 3) := by decide +kernel
theorem dX10_reached_45 : decode cX10_reached 45 = .ok (.lload_n 0, 1) := by decide +kernel
theorem dX10_reached_46 : decode cX10_reached 46 = .ok (.iload 4, 2) := by decide +kernel
theorem dX10_reached_48 : decode cX10_reached 48 = .ok (.iconst 0, 1) := by decide +kernel
theorem dX10_reached_49 : decode cX10_reached 49 = .ok (.iconst (-1), 1) := by decide +kernel
theorem dX10_reached_50 : decode cX10_reached 50 = .ok (.invokestatic 223, 3) := by decide +kernel
theorem dX10_reached_53 : decode cX10_reached 53 = .ok (.ifCond .eq 10, 3) := by decide +kernel
theorem dX10_reached_56 : decode cX10_reached 56 = .ok (.lload_n 2, 1) := by decide +kernel
theorem dX10_reached_57 : decode cX10_reached 57 = .ok (.lconst 1, 1) := by decide +kernel
theorem dX10_reached_58 : decode cX10_reached 58 = .ok (.iload 4, 2) := by decide +kernel
theorem dX10_reached_60 : decode cX10_reached 60 = .ok (.lshl, 1) := by decide +kernel
theorem dX10_reached_61 : decode cX10_reached 61 = .ok (.lor, 1) := by decide +kernel
theorem dX10_reached_62 : decode cX10_reached 62 = .ok (.lstore_n 2, 1) := by decide +kernel
theorem dX10_reached_63 : decode cX10_reached 63 = .ok (.iinc 4 1, 3) := by decide +kernel
theorem dX10_reached_66 : decode cX10_reached 66 = .ok (.goto (-61), 3) := by decide +kernel
theorem dX10_reached_69 : decode cX10_reached 69 = .ok (.lload_n 2, 1) := by decide +kernel
theorem dX10_reached_70 : decode cX10_reached 70 = .ok (.lreturn, 1) := by decide +kernel
theorem dX10_beside_0 : decode cX10_beside 0 = .ok (.lconst 0, 1) := by decide +kernel
theorem dX10_beside_1 : decode cX10_beside 1 = .ok (.lstore_n 2, 1) := by decide +kernel
theorem dX10_beside_2 : decode cX10_beside 2 = .ok (.iconst 0, 1) := by decide +kernel
theorem dX10_beside_3 : decode cX10_beside 3 = .ok (.istore 4, 2) := by decide +kernel
theorem dX10_beside_5 : decode cX10_beside 5 = .ok (.iload 4, 2) := by decide +kernel
theorem dX10_beside_7 : decode cX10_beside 7 = .ok (.bipush 64, 2) := by decide +kernel
theorem dX10_beside_9 : decode cX10_beside 9 = .ok (.if_icmp .ge 91, 3) := by decide +kernel
theorem dX10_beside_12 : decode cX10_beside 12 = .ok (.lload_n 0, 1) := by decide +kernel
theorem dX10_beside_13 : decode cX10_beside 13 = .ok (.iload 4, 2) := by decide +kernel
theorem dX10_beside_15 : decode cX10_beside 15 = .ok (.invokestatic 191, 3) := by decide +kernel
theorem dX10_beside_18 : decode cX10_beside 18 = .ok (.ifCond .ne 6, 3) := by decide +kernel
theorem dX10_beside_21 : decode cX10_beside 21 = .ok (.goto 73, 3) := by decide +kernel
theorem dX10_beside_24 : decode cX10_beside 24 = .ok (.iload 4, 2) := by decide +kernel
theorem dX10_beside_26 : decode cX10_beside 26 = .ok (.bipush 8, 2) := by decide +kernel
theorem dX10_beside_28 : decode cX10_beside 28 = .ok (.irem, 1) := by decide +kernel
theorem dX10_beside_29 : decode cX10_beside 29 = .ok (.ifCond .le 12, 3) := by decide +kernel
theorem dX10_beside_32 : decode cX10_beside 32 = .ok (.lload_n 2, 1) := by decide +kernel
theorem dX10_beside_33 : decode cX10_beside 33 = .ok (.lconst 1, 1) := by decide +kernel
theorem dX10_beside_34 : decode cX10_beside 34 = .ok (.iload 4, 2) := by decide +kernel
theorem dX10_beside_36 : decode cX10_beside 36 = .ok (.iconst 1, 1) := by decide +kernel
theorem dX10_beside_37 : decode cX10_beside 37 = .ok (.isub, 1) := by decide +kernel
theorem dX10_beside_38 : decode cX10_beside 38 = .ok (.lshl, 1) := by decide +kernel
theorem dX10_beside_39 : decode cX10_beside 39 = .ok (.lor, 1) := by decide +kernel
theorem dX10_beside_40 : decode cX10_beside 40 = .ok (.lstore_n 2, 1) := by decide +kernel
theorem dX10_beside_41 : decode cX10_beside 41 = .ok (.iload 4, 2) := by decide +kernel
theorem dX10_beside_43 : decode cX10_beside 43 = .ok (.bipush 8, 2) := by decide +kernel
theorem dX10_beside_45 : decode cX10_beside 45 = .ok (.irem, 1) := by decide +kernel
theorem dX10_beside_46 : decode cX10_beside 46 = .ok (.bipush 7, 2) := by decide +kernel
theorem dX10_beside_48 : decode cX10_beside 48 = .ok (.if_icmp .ge 12, 3) := by decide +kernel
theorem dX10_beside_51 : decode cX10_beside 51 = .ok (.lload_n 2, 1) := by decide +kernel
theorem dX10_beside_52 : decode cX10_beside 52 = .ok (.lconst 1, 1) := by decide +kernel
theorem dX10_beside_53 : decode cX10_beside 53 = .ok (.iload 4, 2) := by decide +kernel
theorem dX10_beside_55 : decode cX10_beside 55 = .ok (.iconst 1, 1) := by decide +kernel
theorem dX10_beside_56 : decode cX10_beside 56 = .ok (.iadd, 1) := by decide +kernel
theorem dX10_beside_57 : decode cX10_beside 57 = .ok (.lshl, 1) := by decide +kernel
theorem dX10_beside_58 : decode cX10_beside 58 = .ok (.lor, 1) := by decide +kernel
theorem dX10_beside_59 : decode cX10_beside 59 = .ok (.lstore_n 2, 1) := by decide +kernel
theorem dX10_beside_60 : decode cX10_beside 60 = .ok (.iload 4, 2) := by decide +kernel
theorem dX10_beside_62 : decode cX10_beside 62 = .ok (.bipush 7, 2) := by decide +kernel
theorem dX10_beside_64 : decode cX10_beside 64 = .ok (.if_icmp .le 13, 3) := by decide +kernel
theorem dX10_beside_67 : decode cX10_beside 67 = .ok (.lload_n 2, 1) := by decide +kernel
theorem dX10_beside_68 : decode cX10_beside 68 = .ok (.lconst 1, 1) := by decide +kernel
theorem dX10_beside_69 : decode cX10_beside 69 = .ok (.iload 4, 2) := by decide +kernel
theorem dX10_beside_71 : decode cX10_beside 71 = .ok (.bipush 8, 2) := by decide +kernel
theorem dX10_beside_73 : decode cX10_beside 73 = .ok (.isub, 1) := by decide +kernel
theorem dX10_beside_74 : decode cX10_beside 74 = .ok (.lshl, 1) := by decide +kernel
theorem dX10_beside_75 : decode cX10_beside 75 = .ok (.lor, 1) := by decide +kernel
theorem dX10_beside_76 : decode cX10_beside 76 = .ok (.lstore_n 2, 1) := by decide +kernel
theorem dX10_beside_77 : decode cX10_beside 77 = .ok (.iload 4, 2) := by decide +kernel
theorem dX10_beside_79 : decode cX10_beside 79 = .ok (.bipush 56, 2) := by decide +kernel
theorem dX10_beside_81 : decode cX10_beside 81 = .ok (.if_icmp .ge 13, 3) := by decide +kernel
theorem dX10_beside_84 : decode cX10_beside 84 = .ok (.lload_n 2, 1) := by decide +kernel
theorem dX10_beside_85 : decode cX10_beside 85 = .ok (.lconst 1, 1) := by decide +kernel
theorem dX10_beside_86 : decode cX10_beside 86 = .ok (.iload 4, 2) := by decide +kernel
theorem dX10_beside_88 : decode cX10_beside 88 = .ok (.bipush 8, 2) := by decide +kernel
theorem dX10_beside_90 : decode cX10_beside 90 = .ok (.iadd, 1) := by decide +kernel
theorem dX10_beside_91 : decode cX10_beside 91 = .ok (.lshl, 1) := by decide +kernel
theorem dX10_beside_92 : decode cX10_beside 92 = .ok (.lor, 1) := by decide +kernel
theorem dX10_beside_93 : decode cX10_beside 93 = .ok (.lstore_n 2, 1) := by decide +kernel
theorem dX10_beside_94 : decode cX10_beside 94 = .ok (.iinc 4 1, 3) := by decide +kernel
theorem dX10_beside_97 : decode cX10_beside 97 = .ok (.goto (-92), 3) := by decide +kernel
theorem dX10_beside_100 : decode cX10_beside 100 = .ok (.lload_n 2, 1) := by decide +kernel
theorem dX10_beside_101 : decode cX10_beside 101 = .ok (.lreturn, 1) := by decide +kernel
theorem dX10_hidden_0 : decode cX10_hidden 0 = .ok (.lload_n 0, 1) := by decide +kernel
theorem dX10_hidden_1 : decode cX10_hidden 1 = .ok (.lload_n 0, 1) := by decide +kernel
theorem dX10_hidden_2 : decode cX10_hidden 2 = .ok (.invokestatic 227, 3) := by decide +kernel
theorem dX10_hidden_5 : decode cX10_hidden 5 = .ok (.lor, 1) := by decide +kernel
theorem dX10_hidden_6 : decode cX10_hidden 6 = .ok (.ldc2_w 195, 3) := by decide +kernel
theorem dX10_hidden_9 : decode cX10_hidden 9 = .ok (.lxor, 1) := by decide +kernel
theorem dX10_hidden_10 : decode cX10_hidden 10 = .ok (.lreturn, 1) := by decide +kernel
theorem dX10_findHollows_0 : decode cX10_findHollows 0 = .ok (.aload_n 0, 1) := by decide +kernel
theorem dX10_findHollows_1 : decode cX10_findHollows 1 = .ok (.iconst 0, 1) := by decide +kernel
theorem dX10_findHollows_2 : decode cX10_findHollows 2 = .ok (.putfield 231, 3) := by decide +kernel
theorem dX10_findHollows_5 : decode cX10_findHollows 5 = .ok (.iconst 0, 1) := by decide +kernel
theorem dX10_findHollows_6 : decode cX10_findHollows 6 = .ok (.istore_n 1, 1) := by decide +kernel
theorem dX10_findHollows_7 : decode cX10_findHollows 7 = .ok (.iload_n 1, 1) := by decide +kernel
theorem dX10_findHollows_8 : decode cX10_findHollows 8 = .ok (.aload_n 0, 1) := by decide +kernel
theorem dX10_findHollows_9 : decode cX10_findHollows 9 = .ok (.getfield 20, 3) := by decide +kernel
theorem dX10_findHollows_12 : decode cX10_findHollows 12 = .ok (.iconst 0, 1) := by decide +kernel
theorem dX10_findHollows_13 : decode cX10_findHollows 13 = .ok (.iaload, 1) := by decide +kernel
theorem dX10_findHollows_14 : decode cX10_findHollows 14 = .ok (.if_icmp .ge 135, 3) := by decide +kernel
theorem dX10_findHollows_17 : decode cX10_findHollows 17 = .ok (.aload_n 0, 1) := by decide +kernel
theorem dX10_findHollows_18 : decode cX10_findHollows 18 = .ok (.getfield 27, 3) := by decide +kernel
theorem dX10_findHollows_21 : decode cX10_findHollows 21 = .ok (.iload_n 1, 1) := by decide +kernel
theorem dX10_findHollows_22 : decode cX10_findHollows 22 = .ok (.laload, 1) := by decide +kernel
theorem dX10_findHollows_23 : decode cX10_findHollows 23 = .ok (.invokestatic 234, 3) := by decide +kernel
theorem dX10_findHollows_26 : decode cX10_findHollows 26 = .ok (.lstore_n 2, 1) := by decide +kernel
theorem dX10_findHollows_27 : decode cX10_findHollows 27 = .ok (.iconst 0, 1) := by decide +kernel
theorem dX10_findHollows_28 : decode cX10_findHollows 28 = .ok (.istore 4, 2) := by decide +kernel
theorem dX10_findHollows_30 : decode cX10_findHollows 30 = .ok (.iload 4, 2) := by decide +kernel
theorem dX10_findHollows_32 : decode cX10_findHollows 32 = .ok (.bipush 64, 2) := by decide +kernel
theorem dX10_findHollows_34 : decode cX10_findHollows 34 = .ok (.if_icmp .ge 109, 3) := by decide +kernel
theorem dX10_findHollows_37 : decode cX10_findHollows 37 = .ok (.lload_n 2, 1) := by decide +kernel
theorem dX10_findHollows_38 : decode cX10_findHollows 38 = .ok (.iload 4, 2) := by decide +kernel
theorem dX10_findHollows_40 : decode cX10_findHollows 40 = .ok (.invokestatic 191, 3) := by decide +kernel
theorem dX10_findHollows_43 : decode cX10_findHollows 43 = .ok (.ifCond .ne 6, 3) := by decide +kernel
theorem dX10_findHollows_46 : decode cX10_findHollows 46 = .ok (.goto 91, 3) := by decide +kernel
theorem dX10_findHollows_49 : decode cX10_findHollows 49 = .ok (.lconst 1, 1) := by decide +kernel
theorem dX10_findHollows_50 : decode cX10_findHollows 50 = .ok (.iload 4, 2) := by decide +kernel
theorem dX10_findHollows_52 : decode cX10_findHollows 52 = .ok (.lshl, 1) := by decide +kernel
theorem dX10_findHollows_53 : decode cX10_findHollows 53 = .ok (.lstore 5, 2) := by decide +kernel
theorem dX10_findHollows_55 : decode cX10_findHollows 55 = .ok (.lconst 0, 1) := by decide +kernel
theorem dX10_findHollows_56 : decode cX10_findHollows 56 = .ok (.lstore 7, 2) := by decide +kernel
theorem dX10_findHollows_58 : decode cX10_findHollows 58 = .ok (.lload 5, 2) := by decide +kernel
theorem dX10_findHollows_60 : decode cX10_findHollows 60 = .ok (.lload 7, 2) := by decide +kernel
theorem dX10_findHollows_62 : decode cX10_findHollows 62 = .ok (.lcmp, 1) := by decide +kernel
theorem dX10_findHollows_63 : decode cX10_findHollows 63 = .ok (.ifCond .eq 22, 3) := by decide +kernel
theorem dX10_findHollows_66 : decode cX10_findHollows 66 = .ok (.lload 5, 2) := by decide +kernel
theorem dX10_findHollows_68 : decode cX10_findHollows 68 = .ok (.lstore 7, 2) := by decide +kernel
theorem dX10_findHollows_70 : decode cX10_findHollows 70 = .ok (.lload 5, 2) := by decide +kernel
theorem dX10_findHollows_72 : decode cX10_findHollows 72 = .ok (.lload 5, 2) := by decide +kernel
theorem dX10_findHollows_74 : decode cX10_findHollows 74 = .ok (.invokestatic 237, 3) := by decide +kernel
theorem dX10_findHollows_77 : decode cX10_findHollows 77 = .ok (.lload_n 2, 1) := by decide +kernel
theorem dX10_findHollows_78 : decode cX10_findHollows 78 = .ok (.land, 1) := by decide +kernel
theorem dX10_findHollows_79 : decode cX10_findHollows 79 = .ok (.lor, 1) := by decide +kernel
theorem dX10_findHollows_80 : decode cX10_findHollows 80 = .ok (.lstore 5, 2) := by decide +kernel
theorem dX10_findHollows_82 : decode cX10_findHollows 82 = .ok (.goto (-24), 3) := by decide +kernel
theorem dX10_findHollows_85 : decode cX10_findHollows 85 = .ok (.lload_n 2, 1) := by decide +kernel
theorem dX10_findHollows_86 : decode cX10_findHollows 86 = .ok (.lload 5, 2) := by decide +kernel
theorem dX10_findHollows_88 : decode cX10_findHollows 88 = .ok (.ldc2_w 195, 3) := by decide +kernel
theorem dX10_findHollows_91 : decode cX10_findHollows 91 = .ok (.lxor, 1) := by decide +kernel
theorem dX10_findHollows_92 : decode cX10_findHollows 92 = .ok (.land, 1) := by decide +kernel
theorem dX10_findHollows_93 : decode cX10_findHollows 93 = .ok (.lstore_n 2, 1) := by decide +kernel
theorem dX10_findHollows_94 : decode cX10_findHollows 94 = .ok (.aload_n 0, 1) := by decide +kernel
theorem dX10_findHollows_95 : decode cX10_findHollows 95 = .ok (.getfield 231, 3) := by decide +kernel
theorem dX10_findHollows_98 : decode cX10_findHollows 98 = .ok (.bipush 16, 2) := by decide +kernel
theorem dX10_findHollows_100 : decode cX10_findHollows 100 = .ok (.if_icmp .ne 6, 3) := by decide +kernel
theorem dX10_findHollows_103 : decode cX10_findHollows 103 = .ok (.goto 34, 3) := by decide +kernel
theorem dX10_findHollows_106 : decode cX10_findHollows 106 = .ok (.aload_n 0, 1) := by decide +kernel
theorem dX10_findHollows_107 : decode cX10_findHollows 107 = .ok (.getfield 50, 3) := by decide +kernel
theorem dX10_findHollows_110 : decode cX10_findHollows 110 = .ok (.aload_n 0, 1) := by decide +kernel
theorem dX10_findHollows_111 : decode cX10_findHollows 111 = .ok (.getfield 231, 3) := by decide +kernel
theorem dX10_findHollows_114 : decode cX10_findHollows 114 = .ok (.lload 5, 2) := by decide +kernel
theorem dX10_findHollows_116 : decode cX10_findHollows 116 = .ok (.lastore, 1) := by decide +kernel
theorem dX10_findHollows_117 : decode cX10_findHollows 117 = .ok (.aload_n 0, 1) := by decide +kernel
theorem dX10_findHollows_118 : decode cX10_findHollows 118 = .ok (.getfield 53, 3) := by decide +kernel
theorem dX10_findHollows_121 : decode cX10_findHollows 121 = .ok (.aload_n 0, 1) := by decide +kernel
theorem dX10_findHollows_122 : decode cX10_findHollows 122 = .ok (.getfield 231, 3) := by decide +kernel
theorem dX10_findHollows_125 : decode cX10_findHollows 125 = .ok (.iload_n 1, 1) := by decide +kernel
theorem dX10_findHollows_126 : decode cX10_findHollows 126 = .ok (.iastore, 1) := by decide +kernel
theorem dX10_findHollows_127 : decode cX10_findHollows 127 = .ok (.aload_n 0, 1) := by decide +kernel
theorem dX10_findHollows_128 : decode cX10_findHollows 128 = .ok (.dup, 1) := by decide +kernel
theorem dX10_findHollows_129 : decode cX10_findHollows 129 = .ok (.getfield 231, 3) := by decide +kernel
theorem dX10_findHollows_132 : decode cX10_findHollows 132 = .ok (.iconst 1, 1) := by decide +kernel
theorem dX10_findHollows_133 : decode cX10_findHollows 133 = .ok (.iadd, 1) := by decide +kernel
theorem dX10_findHollows_134 : decode cX10_findHollows 134 = .ok (.putfield 231, 3) := by decide +kernel
theorem dX10_findHollows_137 : decode cX10_findHollows 137 = .ok (.iinc 4 1, 3) := by decide +kernel
theorem dX10_findHollows_140 : decode cX10_findHollows 140 = .ok (.goto (-110), 3) := by decide +kernel
theorem dX10_findHollows_143 : decode cX10_findHollows 143 = .ok (.iinc 1 1, 3) := by decide +kernel
theorem dX10_findHollows_146 : decode cX10_findHollows 146 = .ok (.goto (-139), 3) := by decide +kernel
theorem dX10_findHollows_149 : decode cX10_findHollows 149 = .ok (.return_, 1) := by decide +kernel
theorem dX10_told_0 : decode cX10_told 0 = .ok (.aload_n 0, 1) := by decide +kernel
theorem dX10_told_1 : decode cX10_told 1 = .ok (.iconst 0, 1) := by decide +kernel
theorem dX10_told_2 : decode cX10_told 2 = .ok (.putfield 112, 3) := by decide +kernel
theorem dX10_told_5 : decode cX10_told 5 = .ok (.aload_n 0, 1) := by decide +kernel
theorem dX10_told_6 : decode cX10_told 6 = .ok (.iload_n 1, 1) := by decide +kernel
theorem dX10_told_7 : decode cX10_told 7 = .ok (.iconst 0, 1) := by decide +kernel
theorem dX10_told_8 : decode cX10_told 8 = .ok (.iconst 2, 1) := by decide +kernel
theorem dX10_told_9 : decode cX10_told 9 = .ok (.invokestatic 146, 3) := by decide +kernel
theorem dX10_told_12 : decode cX10_told 12 = .ok (.ifCond .ne 7, 3) := by decide +kernel
theorem dX10_told_15 : decode cX10_told 15 = .ok (.iconst 1, 1) := by decide +kernel
theorem dX10_told_16 : decode cX10_told 16 = .ok (.goto 4, 3) := by decide +kernel
theorem dX10_told_19 : decode cX10_told 19 = .ok (.iconst 0, 1) := by decide +kernel
theorem dX10_told_20 : decode cX10_told 20 = .ok (.iconst 1, 1) := by decide +kernel
theorem dX10_told_21 : decode cX10_told 21 = .ok (.invokevirtual 197, 3) := by decide +kernel
theorem dX10_told_24 : decode cX10_told 24 = .ok (.ifCond .eq 5, 3) := by decide +kernel
theorem dX10_told_27 : decode cX10_told 27 = .ok (.iconst 0, 1) := by decide +kernel
theorem dX10_told_28 : decode cX10_told 28 = .ok (.ireturn, 1) := by decide +kernel
theorem dX10_told_29 : decode cX10_told 29 = .ok (.iload_n 1, 1) := by decide +kernel
theorem dX10_told_30 : decode cX10_told 30 = .ok (.iconst 2, 1) := by decide +kernel
theorem dX10_told_31 : decode cX10_told 31 = .ok (.if_icmp .ge 12, 3) := by decide +kernel
theorem dX10_told_34 : decode cX10_told 34 = .ok (.aload_n 0, 1) := by decide +kernel
theorem dX10_told_35 : decode cX10_told 35 = .ok (.getfield 20, 3) := by decide +kernel
theorem dX10_told_38 : decode cX10_told 38 = .ok (.iload_n 1, 1) := by decide +kernel
theorem dX10_told_39 : decode cX10_told 39 = .ok (.iaload, 1) := by decide +kernel
theorem dX10_told_40 : decode cX10_told 40 = .ok (.goto 7, 3) := by decide +kernel
theorem dX10_told_43 : decode cX10_told 43 = .ok (.aload_n 0, 1) := by decide +kernel
theorem dX10_told_44 : decode cX10_told 44 = .ok (.getfield 231, 3) := by decide +kernel
theorem dX10_told_47 : decode cX10_told 47 = .ok (.ireturn, 1) := by decide +kernel
theorem dX10_isLetter_0 : decode cX10_isLetter 0 = .ok (.iload_n 1, 1) := by decide +kernel
theorem dX10_isLetter_1 : decode cX10_isLetter 1 = .ok (.iconst 0, 1) := by decide +kernel
theorem dX10_isLetter_2 : decode cX10_isLetter 2 = .ok (.aload_n 0, 1) := by decide +kernel
theorem dX10_isLetter_3 : decode cX10_isLetter 3 = .ok (.getfield 20, 3) := by decide +kernel
theorem dX10_isLetter_6 : decode cX10_isLetter 6 = .ok (.iconst 0, 1) := by decide +kernel
theorem dX10_isLetter_7 : decode cX10_isLetter 7 = .ok (.iaload, 1) := by decide +kernel
theorem dX10_isLetter_8 : decode cX10_isLetter 8 = .ok (.iconst 1, 1) := by decide +kernel
theorem dX10_isLetter_9 : decode cX10_isLetter 9 = .ok (.isub, 1) := by decide +kernel
theorem dX10_isLetter_10 : decode cX10_isLetter 10 = .ok (.invokestatic 146, 3) := by decide +kernel
theorem dX10_isLetter_13 : decode cX10_isLetter 13 = .ok (.ireturn, 1) := by decide +kernel
theorem dX10_squares_0 : decode cX10_squares 0 = .ok (.aload_n 0, 1) := by decide +kernel
theorem dX10_squares_1 : decode cX10_squares 1 = .ok (.iconst 0, 1) := by decide +kernel
theorem dX10_squares_2 : decode cX10_squares 2 = .ok (.putfield 112, 3) := by decide +kernel
theorem dX10_squares_5 : decode cX10_squares 5 = .ok (.aload_n 0, 1) := by decide +kernel
theorem dX10_squares_6 : decode cX10_squares 6 = .ok (.aload_n 0, 1) := by decide +kernel
theorem dX10_squares_7 : decode cX10_squares 7 = .ok (.iload_n 1, 1) := by decide +kernel
theorem dX10_squares_8 : decode cX10_squares 8 = .ok (.invokevirtual 240, 3) := by decide +kernel
theorem dX10_squares_11 : decode cX10_squares 11 = .ok (.ifCond .ne 7, 3) := by decide +kernel
theorem dX10_squares_14 : decode cX10_squares 14 = .ok (.iconst 1, 1) := by decide +kernel
theorem dX10_squares_15 : decode cX10_squares 15 = .ok (.goto 4, 3) := by decide +kernel
theorem dX10_squares_18 : decode cX10_squares 18 = .ok (.iconst 0, 1) := by decide +kernel
theorem dX10_squares_19 : decode cX10_squares 19 = .ok (.iconst 1, 1) := by decide +kernel
theorem dX10_squares_20 : decode cX10_squares 20 = .ok (.invokevirtual 197, 3) := by decide +kernel
theorem dX10_squares_23 : decode cX10_squares 23 = .ok (.ifCond .ne 25, 3) := by decide +kernel
theorem dX10_squares_26 : decode cX10_squares 26 = .ok (.aload_n 0, 1) := by decide +kernel
theorem dX10_squares_27 : decode cX10_squares 27 = .ok (.iload_n 2, 1) := by decide +kernel
theorem dX10_squares_28 : decode cX10_squares 28 = .ok (.iconst 0, 1) := by decide +kernel
theorem dX10_squares_29 : decode cX10_squares 29 = .ok (.iconst 2, 1) := by decide +kernel
theorem dX10_squares_30 : decode cX10_squares 30 = .ok (.invokestatic 146, 3) := by decide +kernel
theorem dX10_squares_33 : decode cX10_squares 33 = .ok (.ifCond .ne 7, 3) := by decide +kernel
theorem dX10_squares_36 : decode cX10_squares 36 = .ok (.iconst 1, 1) := by decide +kernel
theorem dX10_squares_37 : decode cX10_squares 37 = .ok (.goto 4, 3) := by decide +kernel
theorem dX10_squares_40 : decode cX10_squares 40 = .ok (.iconst 0, 1) := by decide +kernel
theorem dX10_squares_41 : decode cX10_squares 41 = .ok (.iconst 2, 1) := by decide +kernel
theorem dX10_squares_42 : decode cX10_squares 42 = .ok (.invokevirtual 197, 3) := by decide +kernel
theorem dX10_squares_45 : decode cX10_squares 45 = .ok (.ifCond .eq 5, 3) := by decide +kernel
theorem dX10_squares_48 : decode cX10_squares 48 = .ok (.lconst 0, 1) := by decide +kernel
theorem dX10_squares_49 : decode cX10_squares 49 = .ok (.lreturn, 1) := by decide +kernel
theorem dX10_squares_50 : decode cX10_squares 50 = .ok (.iload_n 2, 1) := by decide +kernel
theorem dX10_squares_51 : decode cX10_squares 51 = .ok (.ifCond .ne 12, 3) := by decide +kernel
theorem dX10_squares_54 : decode cX10_squares 54 = .ok (.aload_n 0, 1) := by decide +kernel
theorem dX10_squares_55 : decode cX10_squares 55 = .ok (.getfield 27, 3) := by decide +kernel
theorem dX10_squares_58 : decode cX10_squares 58 = .ok (.iload_n 1, 1) := by decide +kernel
theorem dX10_squares_59 : decode cX10_squares 59 = .ok (.laload, 1) := by decide +kernel
theorem dX10_squares_60 : decode cX10_squares 60 = .ok (.goto 29, 3) := by decide +kernel
theorem dX10_squares_63 : decode cX10_squares 63 = .ok (.iload_n 2, 1) := by decide +kernel
theorem dX10_squares_64 : decode cX10_squares 64 = .ok (.iconst 1, 1) := by decide +kernel
theorem dX10_squares_65 : decode cX10_squares 65 = .ok (.if_icmp .ne 15, 3) := by decide +kernel
theorem dX10_squares_68 : decode cX10_squares 68 = .ok (.aload_n 0, 1) := by decide +kernel
theorem dX10_squares_69 : decode cX10_squares 69 = .ok (.getfield 27, 3) := by decide +kernel
theorem dX10_squares_72 : decode cX10_squares 72 = .ok (.iload_n 1, 1) := by decide +kernel
theorem dX10_squares_73 : decode cX10_squares 73 = .ok (.laload, 1) := by decide +kernel
theorem dX10_squares_74 : decode cX10_squares 74 = .ok (.invokestatic 227, 3) := by decide +kernel
theorem dX10_squares_77 : decode cX10_squares 77 = .ok (.goto 12, 3) := by decide +kernel
theorem dX10_squares_80 : decode cX10_squares 80 = .ok (.aload_n 0, 1) := by decide +kernel
theorem dX10_squares_81 : decode cX10_squares 81 = .ok (.getfield 27, 3) := by decide +kernel
theorem dX10_squares_84 : decode cX10_squares 84 = .ok (.iload_n 1, 1) := by decide +kernel
theorem dX10_squares_85 : decode cX10_squares 85 = .ok (.laload, 1) := by decide +kernel
theorem dX10_squares_86 : decode cX10_squares 86 = .ok (.invokestatic 234, 3) := by decide +kernel
theorem dX10_squares_89 : decode cX10_squares 89 = .ok (.lreturn, 1) := by decide +kernel
theorem dX10_broad_0 : decode cX10_broad 0 = .ok (.bipush 8, 2) := by decide +kernel
theorem dX10_broad_2 : decode cX10_broad 2 = .ok (.istore_n 2, 1) := by decide +kernel
theorem dX10_broad_3 : decode cX10_broad 3 = .ok (.iconst (-1), 1) := by decide +kernel
theorem dX10_broad_4 : decode cX10_broad 4 = .ok (.istore_n 3, 1) := by decide +kernel
theorem dX10_broad_5 : decode cX10_broad 5 = .ok (.iconst 0, 1) := by decide +kernel
theorem dX10_broad_6 : decode cX10_broad 6 = .ok (.istore 4, 2) := by decide +kernel
theorem dX10_broad_8 : decode cX10_broad 8 = .ok (.iload 4, 2) := by decide +kernel
theorem dX10_broad_10 : decode cX10_broad 10 = .ok (.bipush 64, 2) := by decide +kernel
theorem dX10_broad_12 : decode cX10_broad 12 = .ok (.if_icmp .ge 64, 3) := by decide +kernel
theorem dX10_broad_15 : decode cX10_broad 15 = .ok (.aload_n 0, 1) := by decide +kernel
theorem dX10_broad_16 : decode cX10_broad 16 = .ok (.getfield 27, 3) := by decide +kernel
theorem dX10_broad_19 : decode cX10_broad 19 = .ok (.iload_n 1, 1) := by decide +kernel
theorem dX10_broad_20 : decode cX10_broad 20 = .ok (.laload, 1) := by decide +kernel
theorem dX10_broad_21 : decode cX10_broad 21 = .ok (.iload 4, 2) := by decide +kernel
theorem dX10_broad_23 : decode cX10_broad 23 = .ok (.invokestatic 191, 3) := by decide +kernel
theorem dX10_broad_26 : decode cX10_broad 26 = .ok (.ifCond .ne 6, 3) := by decide +kernel
theorem dX10_broad_29 : decode cX10_broad 29 = .ok (.goto 41, 3) := by decide +kernel
theorem dX10_broad_32 : decode cX10_broad 32 = .ok (.iload 4, 2) := by decide +kernel
theorem dX10_broad_34 : decode cX10_broad 34 = .ok (.bipush 8, 2) := by decide +kernel
theorem dX10_broad_36 : decode cX10_broad 36 = .ok (.irem, 1) := by decide +kernel
theorem dX10_broad_37 : decode cX10_broad 37 = .ok (.iload_n 2, 1) := by decide +kernel
theorem dX10_broad_38 : decode cX10_broad 38 = .ok (.if_icmp .ge 11, 3) := by decide +kernel
theorem dX10_broad_41 : decode cX10_broad 41 = .ok (.iload 4, 2) := by decide +kernel
theorem dX10_broad_43 : decode cX10_broad 43 = .ok (.bipush 8, 2) := by decide +kernel
theorem dX10_broad_45 : decode cX10_broad 45 = .ok (.irem, 1) := by decide +kernel
theorem dX10_broad_46 : decode cX10_broad 46 = .ok (.goto 4, 3) := by decide +kernel
theorem dX10_broad_49 : decode cX10_broad 49 = .ok (.iload_n 2, 1) := by decide +kernel
theorem dX10_broad_50 : decode cX10_broad 50 = .ok (.istore_n 2, 1) := by decide +kernel
theorem dX10_broad_51 : decode cX10_broad 51 = .ok (.iload 4, 2) := by decide +kernel
theorem dX10_broad_53 : decode cX10_broad 53 = .ok (.bipush 8, 2) := by decide +kernel
theorem dX10_broad_55 : decode cX10_broad 55 = .ok (.irem, 1) := by decide +kernel
theorem dX10_broad_56 : decode cX10_broad 56 = .ok (.iload_n 3, 1) := by decide +kernel
theorem dX10_broad_57 : decode cX10_broad 57 = .ok (.if_icmp .le 11, 3) := by decide +kernel
theorem dX10_broad_60 : decode cX10_broad 60 = .ok (.iload 4, 2) := by decide +kernel
theorem dX10_broad_62 : decode cX10_broad 62 = .ok (.bipush 8, 2) := by decide +kernel
theorem dX10_broad_64 : decode cX10_broad 64 = .ok (.irem, 1) := by decide +kernel
theorem dX10_broad_65 : decode cX10_broad 65 = .ok (.goto 4, 3) := by decide +kernel
theorem dX10_broad_68 : decode cX10_broad 68 = .ok (.iload_n 3, 1) := by decide +kernel
theorem dX10_broad_69 : decode cX10_broad 69 = .ok (.istore_n 3, 1) := by decide +kernel
theorem dX10_broad_70 : decode cX10_broad 70 = .ok (.iinc 4 1, 3) := by decide +kernel
theorem dX10_broad_73 : decode cX10_broad 73 = .ok (.goto (-65), 3) := by decide +kernel
theorem dX10_broad_76 : decode cX10_broad 76 = .ok (.iload_n 3, 1) := by decide +kernel
theorem dX10_broad_77 : decode cX10_broad 77 = .ok (.iconst (-1), 1) := by decide +kernel
theorem dX10_broad_78 : decode cX10_broad 78 = .ok (.if_icmp .ne 7, 3) := by decide +kernel
theorem dX10_broad_81 : decode cX10_broad 81 = .ok (.iconst 0, 1) := by decide +kernel
theorem dX10_broad_82 : decode cX10_broad 82 = .ok (.goto 8, 3) := by decide +kernel
theorem dX10_broad_85 : decode cX10_broad 85 = .ok (.iload_n 3, 1) := by decide +kernel
theorem dX10_broad_86 : decode cX10_broad 86 = .ok (.iload_n 2, 1) := by decide +kernel
theorem dX10_broad_87 : decode cX10_broad 87 = .ok (.isub, 1) := by decide +kernel
theorem dX10_broad_88 : decode cX10_broad 88 = .ok (.iconst 1, 1) := by decide +kernel
theorem dX10_broad_89 : decode cX10_broad 89 = .ok (.iadd, 1) := by decide +kernel
theorem dX10_broad_90 : decode cX10_broad 90 = .ok (.ireturn, 1) := by decide +kernel
theorem dX10_edge_0 : decode cX10_edge 0 = .ok (.aload_n 0, 1) := by decide +kernel
theorem dX10_edge_1 : decode cX10_edge 1 = .ok (.getfield 27, 3) := by decide +kernel
theorem dX10_edge_4 : decode cX10_edge 4 = .ok (.iload_n 1, 1) := by decide +kernel
theorem dX10_edge_5 : decode cX10_edge 5 = .ok (.laload, 1) := by decide +kernel
theorem dX10_edge_6 : decode cX10_edge 6 = .ok (.invokestatic 237, 3) := by decide +kernel
theorem dX10_edge_9 : decode cX10_edge 9 = .ok (.aload_n 0, 1) := by decide +kernel
theorem dX10_edge_10 : decode cX10_edge 10 = .ok (.getfield 27, 3) := by decide +kernel
theorem dX10_edge_13 : decode cX10_edge 13 = .ok (.iload_n 1, 1) := by decide +kernel
theorem dX10_edge_14 : decode cX10_edge 14 = .ok (.laload, 1) := by decide +kernel
theorem dX10_edge_15 : decode cX10_edge 15 = .ok (.ldc2_w 195, 3) := by decide +kernel
theorem dX10_edge_18 : decode cX10_edge 18 = .ok (.lxor, 1) := by decide +kernel
theorem dX10_edge_19 : decode cX10_edge 19 = .ok (.land, 1) := by decide +kernel
theorem dX10_edge_20 : decode cX10_edge 20 = .ok (.invokestatic 243, 3) := by decide +kernel
theorem dX10_edge_23 : decode cX10_edge 23 = .ok (.ireturn, 1) := by decide +kernel
theorem dX10_letter_0 : decode cX10_letter 0 = .ok (.aload_n 0, 1) := by decide +kernel
theorem dX10_letter_1 : decode cX10_letter 1 = .ok (.iconst 0, 1) := by decide +kernel
theorem dX10_letter_2 : decode cX10_letter 2 = .ok (.putfield 112, 3) := by decide +kernel
theorem dX10_letter_5 : decode cX10_letter 5 = .ok (.aload_n 0, 1) := by decide +kernel
theorem dX10_letter_6 : decode cX10_letter 6 = .ok (.aload_n 0, 1) := by decide +kernel
theorem dX10_letter_7 : decode cX10_letter 7 = .ok (.iload_n 1, 1) := by decide +kernel
theorem dX10_letter_8 : decode cX10_letter 8 = .ok (.invokevirtual 240, 3) := by decide +kernel
theorem dX10_letter_11 : decode cX10_letter 11 = .ok (.ifCond .ne 7, 3) := by decide +kernel
theorem dX10_letter_14 : decode cX10_letter 14 = .ok (.iconst 1, 1) := by decide +kernel
theorem dX10_letter_15 : decode cX10_letter 15 = .ok (.goto 4, 3) := by decide +kernel
theorem dX10_letter_18 : decode cX10_letter 18 = .ok (.iconst 0, 1) := by decide +kernel
theorem dX10_letter_19 : decode cX10_letter 19 = .ok (.iconst 1, 1) := by decide +kernel
theorem dX10_letter_20 : decode cX10_letter 20 = .ok (.invokevirtual 197, 3) := by decide +kernel
theorem dX10_letter_23 : decode cX10_letter 23 = .ok (.ifCond .ne 25, 3) := by decide +kernel
theorem dX10_letter_26 : decode cX10_letter 26 = .ok (.aload_n 0, 1) := by decide +kernel
theorem dX10_letter_27 : decode cX10_letter 27 = .ok (.iload_n 2, 1) := by decide +kernel
theorem dX10_letter_28 : decode cX10_letter 28 = .ok (.iconst 0, 1) := by decide +kernel
theorem dX10_letter_29 : decode cX10_letter 29 = .ok (.iconst 4, 1) := by decide +kernel
theorem dX10_letter_30 : decode cX10_letter 30 = .ok (.invokestatic 146, 3) := by decide +kernel
theorem dX10_letter_33 : decode cX10_letter 33 = .ok (.ifCond .ne 7, 3) := by decide +kernel
theorem dX10_letter_36 : decode cX10_letter 36 = .ok (.iconst 1, 1) := by decide +kernel
theorem dX10_letter_37 : decode cX10_letter 37 = .ok (.goto 4, 3) := by decide +kernel
theorem dX10_letter_40 : decode cX10_letter 40 = .ok (.iconst 0, 1) := by decide +kernel
theorem dX10_letter_41 : decode cX10_letter 41 = .ok (.iconst 2, 1) := by decide +kernel
theorem dX10_letter_42 : decode cX10_letter 42 = .ok (.invokevirtual 197, 3) := by decide +kernel
theorem dX10_letter_45 : decode cX10_letter 45 = .ok (.ifCond .eq 5, 3) := by decide +kernel
theorem dX10_letter_48 : decode cX10_letter 48 = .ok (.iconst 0, 1) := by decide +kernel
theorem dX10_letter_49 : decode cX10_letter 49 = .ok (.ireturn, 1) := by decide +kernel
theorem dX10_letter_50 : decode cX10_letter 50 = .ok (.iconst (-1), 1) := by decide +kernel
theorem dX10_letter_51 : decode cX10_letter 51 = .ok (.istore_n 3, 1) := by decide +kernel
theorem dX10_letter_52 : decode cX10_letter 52 = .ok (.iconst 0, 1) := by decide +kernel
theorem dX10_letter_53 : decode cX10_letter 53 = .ok (.istore 4, 2) := by decide +kernel
theorem dX10_letter_55 : decode cX10_letter 55 = .ok (.aload_n 0, 1) := by decide +kernel
theorem dX10_letter_56 : decode cX10_letter 56 = .ok (.getfield 231, 3) := by decide +kernel
theorem dX10_letter_59 : decode cX10_letter 59 = .ok (.iconst 1, 1) := by decide +kernel
theorem dX10_letter_60 : decode cX10_letter 60 = .ok (.isub, 1) := by decide +kernel
theorem dX10_letter_61 : decode cX10_letter 61 = .ok (.istore 5, 2) := by decide +kernel
theorem dX10_letter_63 : decode cX10_letter 63 = .ok (.iload 5, 2) := by decide +kernel
theorem dX10_letter_65 : decode cX10_letter 65 = .ok (.ifCond .lt 29, 3) := by decide +kernel
theorem dX10_letter_68 : decode cX10_letter 68 = .ok (.aload_n 0, 1) := by decide +kernel
theorem dX10_letter_69 : decode cX10_letter 69 = .ok (.getfield 53, 3) := by decide +kernel
theorem dX10_letter_72 : decode cX10_letter 72 = .ok (.iload 5, 2) := by decide +kernel
theorem dX10_letter_74 : decode cX10_letter 74 = .ok (.iaload, 1) := by decide +kernel
theorem dX10_letter_75 : decode cX10_letter 75 = .ok (.iload_n 1, 1) := by decide +kernel
theorem dX10_letter_76 : decode cX10_letter 76 = .ok (.if_icmp .eq 6, 3) := by decide +kernel
theorem dX10_letter_79 : decode cX10_letter 79 = .ok (.goto 9, 3) := by decide +kernel
theorem dX10_letter_82 : decode cX10_letter 82 = .ok (.iload 5, 2) := by decide +kernel
theorem dX10_letter_84 : decode cX10_letter 84 = .ok (.istore_n 3, 1) := by decide +kernel
theorem dX10_letter_85 : decode cX10_letter 85 = .ok (.iinc 4 1, 3) := by decide +kernel
theorem dX10_letter_88 : decode cX10_letter 88 = .ok (.iinc 5 (-1), 3) := by decide +kernel
theorem dX10_letter_91 : decode cX10_letter 91 = .ok (.goto (-28), 3) := by decide +kernel
theorem dX10_letter_94 : decode cX10_letter 94 = .ok (.iload_n 2, 1) := by decide +kernel
theorem dX10_letter_95 : decode cX10_letter 95 = .ok (.ifCond .ne 15, 3) := by decide +kernel
theorem dX10_letter_98 : decode cX10_letter 98 = .ok (.aload_n 0, 1) := by decide +kernel
theorem dX10_letter_99 : decode cX10_letter 99 = .ok (.getfield 27, 3) := by decide +kernel
theorem dX10_letter_102 : decode cX10_letter 102 = .ok (.iload_n 1, 1) := by decide +kernel
theorem dX10_letter_103 : decode cX10_letter 103 = .ok (.laload, 1) := by decide +kernel
theorem dX10_letter_104 : decode cX10_letter 104 = .ok (.invokestatic 243, 3) := by decide +kernel
theorem dX10_letter_107 : decode cX10_letter 107 = .ok (.goto 40, 3) := by decide +kernel
theorem dX10_letter_110 : decode cX10_letter 110 = .ok (.iload_n 2, 1) := by decide +kernel
theorem dX10_letter_111 : decode cX10_letter 111 = .ok (.iconst 1, 1) := by decide +kernel
theorem dX10_letter_112 : decode cX10_letter 112 = .ok (.if_icmp .ne 11, 3) := by decide +kernel
theorem dX10_letter_115 : decode cX10_letter 115 = .ok (.aload_n 0, 1) := by decide +kernel
theorem dX10_letter_116 : decode cX10_letter 116 = .ok (.iload_n 1, 1) := by decide +kernel
theorem dX10_letter_117 : decode cX10_letter 117 = .ok (.invokevirtual 247, 3) := by decide +kernel
theorem dX10_letter_120 : decode cX10_letter 120 = .ok (.goto 27, 3) := by decide +kernel
theorem dX10_letter_123 : decode cX10_letter 123 = .ok (.iload_n 2, 1) := by decide +kernel
theorem dX10_letter_124 : decode cX10_letter 124 = .ok (.iconst 2, 1) := by decide +kernel
theorem dX10_letter_125 : decode cX10_letter 125 = .ok (.if_icmp .ne 11, 3) := by decide +kernel
theorem dX10_letter_128 : decode cX10_letter 128 = .ok (.aload_n 0, 1) := by decide +kernel
theorem dX10_letter_129 : decode cX10_letter 129 = .ok (.iload_n 1, 1) := by decide +kernel
theorem dX10_letter_130 : decode cX10_letter 130 = .ok (.invokevirtual 250, 3) := by decide +kernel
theorem dX10_letter_133 : decode cX10_letter 133 = .ok (.goto 14, 3) := by decide +kernel
theorem dX10_letter_136 : decode cX10_letter 136 = .ok (.iload_n 2, 1) := by decide +kernel
theorem dX10_letter_137 : decode cX10_letter 137 = .ok (.iconst 3, 1) := by decide +kernel
theorem dX10_letter_138 : decode cX10_letter 138 = .ok (.if_icmp .ne 7, 3) := by decide +kernel
theorem dX10_letter_141 : decode cX10_letter 141 = .ok (.iload_n 3, 1) := by decide +kernel
theorem dX10_letter_142 : decode cX10_letter 142 = .ok (.goto 5, 3) := by decide +kernel
theorem dX10_letter_145 : decode cX10_letter 145 = .ok (.iload 4, 2) := by decide +kernel
theorem dX10_letter_147 : decode cX10_letter 147 = .ok (.ireturn, 1) := by decide +kernel
theorem dX10_isHollow_0 : decode cX10_isHollow 0 = .ok (.iload_n 1, 1) := by decide +kernel
theorem dX10_isHollow_1 : decode cX10_isHollow 1 = .ok (.iconst 0, 1) := by decide +kernel
theorem dX10_isHollow_2 : decode cX10_isHollow 2 = .ok (.aload_n 0, 1) := by decide +kernel
theorem dX10_isHollow_3 : decode cX10_isHollow 3 = .ok (.getfield 231, 3) := by decide +kernel
theorem dX10_isHollow_6 : decode cX10_isHollow 6 = .ok (.iconst 1, 1) := by decide +kernel
theorem dX10_isHollow_7 : decode cX10_isHollow 7 = .ok (.isub, 1) := by decide +kernel
theorem dX10_isHollow_8 : decode cX10_isHollow 8 = .ok (.invokestatic 146, 3) := by decide +kernel
theorem dX10_isHollow_11 : decode cX10_isHollow 11 = .ok (.ireturn, 1) := by decide +kernel
theorem dX10_hollow_0 : decode cX10_hollow 0 = .ok (.aload_n 0, 1) := by decide +kernel
theorem dX10_hollow_1 : decode cX10_hollow 1 = .ok (.iconst 0, 1) := by decide +kernel
theorem dX10_hollow_2 : decode cX10_hollow 2 = .ok (.putfield 112, 3) := by decide +kernel
theorem dX10_hollow_5 : decode cX10_hollow 5 = .ok (.aload_n 0, 1) := by decide +kernel
theorem dX10_hollow_6 : decode cX10_hollow 6 = .ok (.aload_n 0, 1) := by decide +kernel
theorem dX10_hollow_7 : decode cX10_hollow 7 = .ok (.iload_n 1, 1) := by decide +kernel
theorem dX10_hollow_8 : decode cX10_hollow 8 = .ok (.invokevirtual 253, 3) := by decide +kernel
theorem dX10_hollow_11 : decode cX10_hollow 11 = .ok (.ifCond .ne 7, 3) := by decide +kernel
theorem dX10_hollow_14 : decode cX10_hollow 14 = .ok (.iconst 1, 1) := by decide +kernel
theorem dX10_hollow_15 : decode cX10_hollow 15 = .ok (.goto 4, 3) := by decide +kernel
theorem dX10_hollow_18 : decode cX10_hollow 18 = .ok (.iconst 0, 1) := by decide +kernel
theorem dX10_hollow_19 : decode cX10_hollow 19 = .ok (.iconst 1, 1) := by decide +kernel
theorem dX10_hollow_20 : decode cX10_hollow 20 = .ok (.invokevirtual 197, 3) := by decide +kernel
theorem dX10_hollow_23 : decode cX10_hollow 23 = .ok (.ifCond .eq 5, 3) := by decide +kernel
theorem dX10_hollow_26 : decode cX10_hollow 26 = .ok (.lconst 0, 1) := by decide +kernel
theorem dX10_hollow_27 : decode cX10_hollow 27 = .ok (.lreturn, 1) := by decide +kernel
theorem dX10_hollow_28 : decode cX10_hollow 28 = .ok (.aload_n 0, 1) := by decide +kernel
theorem dX10_hollow_29 : decode cX10_hollow 29 = .ok (.getfield 50, 3) := by decide +kernel
theorem dX10_hollow_32 : decode cX10_hollow 32 = .ok (.iload_n 1, 1) := by decide +kernel
theorem dX10_hollow_33 : decode cX10_hollow 33 = .ok (.laload, 1) := by decide +kernel
theorem dX10_hollow_34 : decode cX10_hollow 34 = .ok (.lreturn, 1) := by decide +kernel
theorem dX10_shapeOf_0 : decode cX10_shapeOf 0 = .ok (.bipush 8, 2) := by decide +kernel
theorem dX10_shapeOf_2 : decode cX10_shapeOf 2 = .ok (.istore_n 2, 1) := by decide +kernel
theorem dX10_shapeOf_3 : decode cX10_shapeOf 3 = .ok (.bipush 8, 2) := by decide +kernel
theorem dX10_shapeOf_5 : decode cX10_shapeOf 5 = .ok (.istore_n 3, 1) := by decide +kernel
theorem dX10_shapeOf_6 : decode cX10_shapeOf 6 = .ok (.iconst 0, 1) := by decide +kernel
theorem dX10_shapeOf_7 : decode cX10_shapeOf 7 = .ok (.istore 4, 2) := by decide +kernel
theorem dX10_shapeOf_9 : decode cX10_shapeOf 9 = .ok (.iload 4, 2) := by decide +kernel
theorem dX10_shapeOf_11 : decode cX10_shapeOf 11 = .ok (.bipush 64, 2) := by decide +kernel
theorem dX10_shapeOf_13 : decode cX10_shapeOf 13 = .ok (.if_icmp .ge 59, 3) := by decide +kernel
theorem dX10_shapeOf_16 : decode cX10_shapeOf 16 = .ok (.lload_n 0, 1) := by decide +kernel
theorem dX10_shapeOf_17 : decode cX10_shapeOf 17 = .ok (.iload 4, 2) := by decide +kernel
theorem dX10_shapeOf_19 : decode cX10_shapeOf 19 = .ok (.invokestatic 191, 3) := by decide +kernel
theorem dX10_shapeOf_22 : decode cX10_shapeOf 22 = .ok (.ifCond .ne 6, 3) := by decide +kernel
theorem dX10_shapeOf_25 : decode cX10_shapeOf 25 = .ok (.goto 41, 3) := by decide +kernel
theorem dX10_shapeOf_28 : decode cX10_shapeOf 28 = .ok (.iload 4, 2) := by decide +kernel
theorem dX10_shapeOf_30 : decode cX10_shapeOf 30 = .ok (.bipush 8, 2) := by decide +kernel
theorem dX10_shapeOf_32 : decode cX10_shapeOf 32 = .ok (.irem, 1) := by decide +kernel
theorem dX10_shapeOf_33 : decode cX10_shapeOf 33 = .ok (.iload_n 2, 1) := by decide +kernel
theorem dX10_shapeOf_34 : decode cX10_shapeOf 34 = .ok (.if_icmp .ge 11, 3) := by decide +kernel
theorem dX10_shapeOf_37 : decode cX10_shapeOf 37 = .ok (.iload 4, 2) := by decide +kernel
theorem dX10_shapeOf_39 : decode cX10_shapeOf 39 = .ok (.bipush 8, 2) := by decide +kernel
theorem dX10_shapeOf_41 : decode cX10_shapeOf 41 = .ok (.irem, 1) := by decide +kernel
theorem dX10_shapeOf_42 : decode cX10_shapeOf 42 = .ok (.goto 4, 3) := by decide +kernel
theorem dX10_shapeOf_45 : decode cX10_shapeOf 45 = .ok (.iload_n 2, 1) := by decide +kernel
theorem dX10_shapeOf_46 : decode cX10_shapeOf 46 = .ok (.istore_n 2, 1) := by decide +kernel
theorem dX10_shapeOf_47 : decode cX10_shapeOf 47 = .ok (.iload 4, 2) := by decide +kernel
theorem dX10_shapeOf_49 : decode cX10_shapeOf 49 = .ok (.bipush 8, 2) := by decide +kernel
theorem dX10_shapeOf_51 : decode cX10_shapeOf 51 = .ok (.idiv, 1) := by decide +kernel
theorem dX10_shapeOf_52 : decode cX10_shapeOf 52 = .ok (.iload_n 3, 1) := by decide +kernel
theorem dX10_shapeOf_53 : decode cX10_shapeOf 53 = .ok (.if_icmp .ge 11, 3) := by decide +kernel
theorem dX10_shapeOf_56 : decode cX10_shapeOf 56 = .ok (.iload 4, 2) := by decide +kernel
theorem dX10_shapeOf_58 : decode cX10_shapeOf 58 = .ok (.bipush 8, 2) := by decide +kernel
theorem dX10_shapeOf_60 : decode cX10_shapeOf 60 = .ok (.idiv, 1) := by decide +kernel
theorem dX10_shapeOf_61 : decode cX10_shapeOf 61 = .ok (.goto 4, 3) := by decide +kernel
theorem dX10_shapeOf_64 : decode cX10_shapeOf 64 = .ok (.iload_n 3, 1) := by decide +kernel
theorem dX10_shapeOf_65 : decode cX10_shapeOf 65 = .ok (.istore_n 3, 1) := by decide +kernel
theorem dX10_shapeOf_66 : decode cX10_shapeOf 66 = .ok (.iinc 4 1, 3) := by decide +kernel
theorem dX10_shapeOf_69 : decode cX10_shapeOf 69 = .ok (.goto (-60), 3) := by decide +kernel
theorem dX10_shapeOf_72 : decode cX10_shapeOf 72 = .ok (.lconst 0, 1) := by decide +kernel
theorem dX10_shapeOf_73 : decode cX10_shapeOf 73 = .ok (.lstore 4, 2) := by decide +kernel
theorem dX10_shapeOf_75 : decode cX10_shapeOf 75 = .ok (.iconst 0, 1) := by decide +kernel
theorem dX10_shapeOf_76 : decode cX10_shapeOf 76 = .ok (.istore 6, 2) := by decide +kernel
theorem dX10_shapeOf_78 : decode cX10_shapeOf 78 = .ok (.iload 6, 2) := by decide +kernel
theorem dX10_shapeOf_80 : decode cX10_shapeOf 80 = .ok (.bipush 64, 2) := by decide +kernel
theorem dX10_shapeOf_82 : decode cX10_shapeOf 82 = .ok (.if_icmp .ge 34, 3) := by decide +kernel
theorem dX10_shapeOf_85 : decode cX10_shapeOf 85 = .ok (.lload_n 0, 1) := by decide +kernel
theorem dX10_shapeOf_86 : decode cX10_shapeOf 86 = .ok (.iload 6, 2) := by decide +kernel
theorem dX10_shapeOf_88 : decode cX10_shapeOf 88 = .ok (.invokestatic 191, 3) := by decide +kernel
theorem dX10_shapeOf_91 : decode cX10_shapeOf 91 = .ok (.ifCond .eq 19, 3) := by decide +kernel
theorem dX10_shapeOf_94 : decode cX10_shapeOf 94 = .ok (.lload 4, 2) := by decide +kernel
theorem dX10_shapeOf_96 : decode cX10_shapeOf 96 = .ok (.lconst 1, 1) := by decide +kernel
theorem dX10_shapeOf_97 : decode cX10_shapeOf 97 = .ok (.iload 6, 2) := by decide +kernel
theorem dX10_shapeOf_99 : decode cX10_shapeOf 99 = .ok (.bipush 8, 2) := by decide +kernel
theorem dX10_shapeOf_101 : decode cX10_shapeOf 101 = .ok (.iload_n 3, 1) := by decide +kernel
theorem dX10_shapeOf_102 : decode cX10_shapeOf 102 = .ok (.imul, 1) := by decide +kernel
theorem dX10_shapeOf_103 : decode cX10_shapeOf 103 = .ok (.isub, 1) := by decide +kernel
theorem dX10_shapeOf_104 : decode cX10_shapeOf 104 = .ok (.iload_n 2, 1) := by decide +kernel
theorem dX10_shapeOf_105 : decode cX10_shapeOf 105 = .ok (.isub, 1) := by decide +kernel
theorem dX10_shapeOf_106 : decode cX10_shapeOf 106 = .ok (.lshl, 1) := by decide +kernel
theorem dX10_shapeOf_107 : decode cX10_shapeOf 107 = .ok (.lor, 1) := by decide +kernel
theorem dX10_shapeOf_108 : decode cX10_shapeOf 108 = .ok (.lstore 4, 2) := by decide +kernel
theorem dX10_shapeOf_110 : decode cX10_shapeOf 110 = .ok (.iinc 6 1, 3) := by decide +kernel
theorem dX10_shapeOf_113 : decode cX10_shapeOf 113 = .ok (.goto (-35), 3) := by decide +kernel
theorem dX10_shapeOf_116 : decode cX10_shapeOf 116 = .ok (.lload 4, 2) := by decide +kernel
theorem dX10_shapeOf_118 : decode cX10_shapeOf 118 = .ok (.lreturn, 1) := by decide +kernel
theorem dX10_shape_0 : decode cX10_shape 0 = .ok (.aload_n 0, 1) := by decide +kernel
theorem dX10_shape_1 : decode cX10_shape 1 = .ok (.iconst 0, 1) := by decide +kernel
theorem dX10_shape_2 : decode cX10_shape 2 = .ok (.putfield 112, 3) := by decide +kernel
theorem dX10_shape_5 : decode cX10_shape 5 = .ok (.lload_n 1, 1) := by decide +kernel
theorem dX10_shape_6 : decode cX10_shape 6 = .ok (.invokestatic 256, 3) := by decide +kernel
theorem dX10_shape_9 : decode cX10_shape 9 = .ok (.lreturn, 1) := by decide +kernel
theorem dX10_quarter_0 : decode cX10_quarter 0 = .ok (.lconst 0, 1) := by decide +kernel
theorem dX10_quarter_1 : decode cX10_quarter 1 = .ok (.lstore_n 2, 1) := by decide +kernel
theorem dX10_quarter_2 : decode cX10_quarter 2 = .ok (.iconst 0, 1) := by decide +kernel
theorem dX10_quarter_3 : decode cX10_quarter 3 = .ok (.istore 4, 2) := by decide +kernel
theorem dX10_quarter_5 : decode cX10_quarter 5 = .ok (.iload 4, 2) := by decide +kernel
theorem dX10_quarter_7 : decode cX10_quarter 7 = .ok (.bipush 64, 2) := by decide +kernel
theorem dX10_quarter_9 : decode cX10_quarter 9 = .ok (.if_icmp .ge 40, 3) := by decide +kernel
theorem dX10_quarter_12 : decode cX10_quarter 12 = .ok (.lload_n 0, 1) := by decide +kernel
theorem dX10_quarter_13 : decode cX10_quarter 13 = .ok (.iload 4, 2) := by decide +kernel
theorem dX10_quarter_15 : decode cX10_quarter 15 = .ok (.invokestatic 191, 3) := by decide +kernel
theorem dX10_quarter_18 : decode cX10_quarter 18 = .ok (.ifCond .eq 25, 3) := by decide +kernel
theorem dX10_quarter_21 : decode cX10_quarter 21 = .ok (.lload_n 2, 1) := by decide +kernel
theorem dX10_quarter_22 : decode cX10_quarter 22 = .ok (.lconst 1, 1) := by decide +kernel
theorem dX10_quarter_23 : decode cX10_quarter 23 = .ok (.bipush 8, 2) := by decide +kernel
theorem dX10_quarter_25 : decode cX10_quarter 25 = .ok (.iload 4, 2) := by decide +kernel
theorem dX10_quarter_27 : decode cX10_quarter 27 = .ok (.bipush 8, 2) := by decide +kernel
theorem dX10_quarter_29 : decode cX10_quarter 29 = .ok (.irem, 1) := by decide +kernel
theorem dX10_quarter_30 : decode cX10_quarter 30 = .ok (.imul, 1) := by decide +kernel
theorem dX10_quarter_31 : decode cX10_quarter 31 = .ok (.bipush 7, 2) := by decide +kernel
theorem dX10_quarter_33 : decode cX10_quarter 33 = .ok (.iadd, 1) := by decide +kernel
theorem dX10_quarter_34 : decode cX10_quarter 34 = .ok (.iload 4, 2) := by decide +kernel
theorem dX10_quarter_36 : decode cX10_quarter 36 = .ok (.bipush 8, 2) := by decide +kernel
theorem dX10_quarter_38 : decode cX10_quarter 38 = .ok (.idiv, 1) := by decide +kernel
theorem dX10_quarter_39 : decode cX10_quarter 39 = .ok (.isub, 1) := by decide +kernel
theorem dX10_quarter_40 : decode cX10_quarter 40 = .ok (.lshl, 1) := by decide +kernel
theorem dX10_quarter_41 : decode cX10_quarter 41 = .ok (.lor, 1) := by decide +kernel
theorem dX10_quarter_42 : decode cX10_quarter 42 = .ok (.lstore_n 2, 1) := by decide +kernel
theorem dX10_quarter_43 : decode cX10_quarter 43 = .ok (.iinc 4 1, 3) := by decide +kernel
theorem dX10_quarter_46 : decode cX10_quarter 46 = .ok (.goto (-41), 3) := by decide +kernel
theorem dX10_quarter_49 : decode cX10_quarter 49 = .ok (.lload_n 2, 1) := by decide +kernel
theorem dX10_quarter_50 : decode cX10_quarter 50 = .ok (.lreturn, 1) := by decide +kernel
theorem dX10_mirrored_0 : decode cX10_mirrored 0 = .ok (.lconst 0, 1) := by decide +kernel
theorem dX10_mirrored_1 : decode cX10_mirrored 1 = .ok (.lstore_n 2, 1) := by decide +kernel
theorem dX10_mirrored_2 : decode cX10_mirrored 2 = .ok (.iconst 0, 1) := by decide +kernel
theorem dX10_mirrored_3 : decode cX10_mirrored 3 = .ok (.istore 4, 2) := by decide +kernel
theorem dX10_mirrored_5 : decode cX10_mirrored 5 = .ok (.iload 4, 2) := by decide +kernel
theorem dX10_mirrored_7 : decode cX10_mirrored 7 = .ok (.bipush 64, 2) := by decide +kernel
theorem dX10_mirrored_9 : decode cX10_mirrored 9 = .ok (.if_icmp .ge 40, 3) := by decide +kernel
theorem dX10_mirrored_12 : decode cX10_mirrored 12 = .ok (.lload_n 0, 1) := by decide +kernel
theorem dX10_mirrored_13 : decode cX10_mirrored 13 = .ok (.iload 4, 2) := by decide +kernel
theorem dX10_mirrored_15 : decode cX10_mirrored 15 = .ok (.invokestatic 191, 3) := by decide +kernel
theorem dX10_mirrored_18 : decode cX10_mirrored 18 = .ok (.ifCond .eq 25, 3) := by decide +kernel
theorem dX10_mirrored_21 : decode cX10_mirrored 21 = .ok (.lload_n 2, 1) := by decide +kernel
theorem dX10_mirrored_22 : decode cX10_mirrored 22 = .ok (.lconst 1, 1) := by decide +kernel
theorem dX10_mirrored_23 : decode cX10_mirrored 23 = .ok (.iload 4, 2) := by decide +kernel
theorem dX10_mirrored_25 : decode cX10_mirrored 25 = .ok (.iload 4, 2) := by decide +kernel
theorem dX10_mirrored_27 : decode cX10_mirrored 27 = .ok (.bipush 8, 2) := by decide +kernel
theorem dX10_mirrored_29 : decode cX10_mirrored 29 = .ok (.irem, 1) := by decide +kernel
theorem dX10_mirrored_30 : decode cX10_mirrored 30 = .ok (.isub, 1) := by decide +kernel
theorem dX10_mirrored_31 : decode cX10_mirrored 31 = .ok (.bipush 7, 2) := by decide +kernel
theorem dX10_mirrored_33 : decode cX10_mirrored 33 = .ok (.iadd, 1) := by decide +kernel
theorem dX10_mirrored_34 : decode cX10_mirrored 34 = .ok (.iload 4, 2) := by decide +kernel
theorem dX10_mirrored_36 : decode cX10_mirrored 36 = .ok (.bipush 8, 2) := by decide +kernel
theorem dX10_mirrored_38 : decode cX10_mirrored 38 = .ok (.irem, 1) := by decide +kernel
theorem dX10_mirrored_39 : decode cX10_mirrored 39 = .ok (.isub, 1) := by decide +kernel
theorem dX10_mirrored_40 : decode cX10_mirrored 40 = .ok (.lshl, 1) := by decide +kernel
theorem dX10_mirrored_41 : decode cX10_mirrored 41 = .ok (.lor, 1) := by decide +kernel
theorem dX10_mirrored_42 : decode cX10_mirrored 42 = .ok (.lstore_n 2, 1) := by decide +kernel
theorem dX10_mirrored_43 : decode cX10_mirrored 43 = .ok (.iinc 4 1, 3) := by decide +kernel
theorem dX10_mirrored_46 : decode cX10_mirrored 46 = .ok (.goto (-41), 3) := by decide +kernel
theorem dX10_mirrored_49 : decode cX10_mirrored 49 = .ok (.lload_n 2, 1) := by decide +kernel
theorem dX10_mirrored_50 : decode cX10_mirrored 50 = .ok (.lreturn, 1) := by decide +kernel
theorem dX10_apartOf_0 : decode cX10_apartOf 0 = .ok (.lload_n 2, 1) := by decide +kernel
theorem dX10_apartOf_1 : decode cX10_apartOf 1 = .ok (.invokestatic 256, 3) := by decide +kernel
theorem dX10_apartOf_4 : decode cX10_apartOf 4 = .ok (.lstore 5, 2) := by decide +kernel
theorem dX10_apartOf_6 : decode cX10_apartOf 6 = .ok (.lload_n 0, 1) := by decide +kernel
theorem dX10_apartOf_7 : decode cX10_apartOf 7 = .ok (.lstore 7, 2) := by decide +kernel
theorem dX10_apartOf_9 : decode cX10_apartOf 9 = .ok (.bipush 64, 2) := by decide +kernel
theorem dX10_apartOf_11 : decode cX10_apartOf 11 = .ok (.istore 9, 2) := by decide +kernel
theorem dX10_apartOf_13 : decode cX10_apartOf 13 = .ok (.iconst 0, 1) := by decide +kernel
theorem dX10_apartOf_14 : decode cX10_apartOf 14 = .ok (.istore 10, 2) := by decide +kernel
theorem dX10_apartOf_16 : decode cX10_apartOf 16 = .ok (.iload 10, 2) := by decide +kernel
theorem dX10_apartOf_18 : decode cX10_apartOf 18 = .ok (.iload 4, 2) := by decide +kernel
theorem dX10_apartOf_20 : decode cX10_apartOf 20 = .ok (.ifCond .eq 8, 3) := by decide +kernel
theorem dX10_apartOf_23 : decode cX10_apartOf 23 = .ok (.bipush 8, 2) := by decide +kernel
theorem dX10_apartOf_25 : decode cX10_apartOf 25 = .ok (.goto 4, 3) := by decide +kernel
theorem dX10_apartOf_28 : decode cX10_apartOf 28 = .ok (.iconst 4, 1) := by decide +kernel
theorem dX10_apartOf_29 : decode cX10_apartOf 29 = .ok (.if_icmp .ge 63, 3) := by decide +kernel
theorem dX10_apartOf_32 : decode cX10_apartOf 32 = .ok (.iload 10, 2) := by decide +kernel
theorem dX10_apartOf_34 : decode cX10_apartOf 34 = .ok (.iconst 4, 1) := by decide +kernel
theorem dX10_apartOf_35 : decode cX10_apartOf 35 = .ok (.if_icmp .ne 11, 3) := by decide +kernel
theorem dX10_apartOf_38 : decode cX10_apartOf 38 = .ok (.lload 7, 2) := by decide +kernel
theorem dX10_apartOf_40 : decode cX10_apartOf 40 = .ok (.invokestatic 259, 3) := by decide +kernel
theorem dX10_apartOf_43 : decode cX10_apartOf 43 = .ok (.goto 5, 3) := by decide +kernel
theorem dX10_apartOf_46 : decode cX10_apartOf 46 = .ok (.lload 7, 2) := by decide +kernel
theorem dX10_apartOf_48 : decode cX10_apartOf 48 = .ok (.lstore 7, 2) := by decide +kernel
theorem dX10_apartOf_50 : decode cX10_apartOf 50 = .ok (.lload 7, 2) := by decide +kernel
theorem dX10_apartOf_52 : decode cX10_apartOf 52 = .ok (.invokestatic 256, 3) := by decide +kernel
theorem dX10_apartOf_55 : decode cX10_apartOf 55 = .ok (.lload 5, 2) := by decide +kernel
theorem dX10_apartOf_57 : decode cX10_apartOf 57 = .ok (.lxor, 1) := by decide +kernel
theorem dX10_apartOf_58 : decode cX10_apartOf 58 = .ok (.invokestatic 243, 3) := by decide +kernel
theorem dX10_apartOf_61 : decode cX10_apartOf 61 = .ok (.istore 11, 2) := by decide +kernel
theorem dX10_apartOf_63 : decode cX10_apartOf 63 = .ok (.iload 11, 2) := by decide +kernel
theorem dX10_apartOf_65 : decode cX10_apartOf 65 = .ok (.iload 9, 2) := by decide +kernel
theorem dX10_apartOf_67 : decode cX10_apartOf 67 = .ok (.if_icmp .ge 8, 3) := by decide +kernel
theorem dX10_apartOf_70 : decode cX10_apartOf 70 = .ok (.iload 11, 2) := by decide +kernel
theorem dX10_apartOf_72 : decode cX10_apartOf 72 = .ok (.goto 5, 3) := by decide +kernel
theorem dX10_apartOf_75 : decode cX10_apartOf 75 = .ok (.iload 9, 2) := by decide +kernel
theorem dX10_apartOf_77 : decode cX10_apartOf 77 = .ok (.istore 9, 2) := by decide +kernel
theorem dX10_apartOf_79 : decode cX10_apartOf 79 = .ok (.lload 7, 2) := by decide +kernel
theorem dX10_apartOf_81 : decode cX10_apartOf 81 = .ok (.invokestatic 262, 3) := by decide +kernel
theorem dX10_apartOf_84 : decode cX10_apartOf 84 = .ok (.lstore 7, 2) := by decide +kernel
theorem dX10_apartOf_86 : decode cX10_apartOf 86 = .ok (.iinc 10 1, 3) := by decide +kernel
theorem dX10_apartOf_89 : decode cX10_apartOf 89 = .ok (.goto (-73), 3) := by decide +kernel
theorem dX10_apartOf_92 : decode cX10_apartOf 92 = .ok (.iload 9, 2) := by decide +kernel
theorem dX10_apartOf_94 : decode cX10_apartOf 94 = .ok (.ireturn, 1) := by decide +kernel
theorem dX10_apart_0 : decode cX10_apart 0 = .ok (.aload_n 0, 1) := by decide +kernel
theorem dX10_apart_1 : decode cX10_apart 1 = .ok (.iconst 0, 1) := by decide +kernel
theorem dX10_apart_2 : decode cX10_apart 2 = .ok (.putfield 112, 3) := by decide +kernel
theorem dX10_apart_5 : decode cX10_apart 5 = .ok (.aload_n 0, 1) := by decide +kernel
theorem dX10_apart_6 : decode cX10_apart 6 = .ok (.aload_n 0, 1) := by decide +kernel
theorem dX10_apart_7 : decode cX10_apart 7 = .ok (.iload_n 1, 1) := by decide +kernel
theorem dX10_apart_8 : decode cX10_apart 8 = .ok (.invokevirtual 253, 3) := by decide +kernel
theorem dX10_apart_11 : decode cX10_apart 11 = .ok (.ifCond .eq 11, 3) := by decide +kernel
theorem dX10_apart_14 : decode cX10_apart 14 = .ok (.aload_n 0, 1) := by decide +kernel
theorem dX10_apart_15 : decode cX10_apart 15 = .ok (.iload_n 2, 1) := by decide +kernel
theorem dX10_apart_16 : decode cX10_apart 16 = .ok (.invokevirtual 253, 3) := by decide +kernel
theorem dX10_apart_19 : decode cX10_apart 19 = .ok (.ifCond .ne 7, 3) := by decide +kernel
theorem dX10_apart_22 : decode cX10_apart 22 = .ok (.iconst 1, 1) := by decide +kernel
theorem dX10_apart_23 : decode cX10_apart 23 = .ok (.goto 4, 3) := by decide +kernel
theorem dX10_apart_26 : decode cX10_apart 26 = .ok (.iconst 0, 1) := by decide +kernel
theorem dX10_apart_27 : decode cX10_apart 27 = .ok (.iconst 1, 1) := by decide +kernel
theorem dX10_apart_28 : decode cX10_apart 28 = .ok (.invokevirtual 197, 3) := by decide +kernel
theorem dX10_apart_31 : decode cX10_apart 31 = .ok (.ifCond .eq 5, 3) := by decide +kernel
theorem dX10_apart_34 : decode cX10_apart 34 = .ok (.iconst 0, 1) := by decide +kernel
theorem dX10_apart_35 : decode cX10_apart 35 = .ok (.ireturn, 1) := by decide +kernel
theorem dX10_apart_36 : decode cX10_apart 36 = .ok (.aload_n 0, 1) := by decide +kernel
theorem dX10_apart_37 : decode cX10_apart 37 = .ok (.getfield 50, 3) := by decide +kernel
theorem dX10_apart_40 : decode cX10_apart 40 = .ok (.iload_n 1, 1) := by decide +kernel
theorem dX10_apart_41 : decode cX10_apart 41 = .ok (.laload, 1) := by decide +kernel
theorem dX10_apart_42 : decode cX10_apart 42 = .ok (.aload_n 0, 1) := by decide +kernel
theorem dX10_apart_43 : decode cX10_apart 43 = .ok (.getfield 50, 3) := by decide +kernel
theorem dX10_apart_46 : decode cX10_apart 46 = .ok (.iload_n 2, 1) := by decide +kernel
theorem dX10_apart_47 : decode cX10_apart 47 = .ok (.laload, 1) := by decide +kernel
theorem dX10_apart_48 : decode cX10_apart 48 = .ok (.iload_n 3, 1) := by decide +kernel
theorem dX10_apart_49 : decode cX10_apart 49 = .ok (.invokestatic 265, 3) := by decide +kernel
theorem dX10_apart_52 : decode cX10_apart 52 = .ok (.ireturn, 1) := by decide +kernel
theorem dX10_findSet_0 : decode cX10_findSet 0 = .ok (.iconst 0, 1) := by decide +kernel
theorem dX10_findSet_1 : decode cX10_findSet 1 = .ok (.istore_n 3, 1) := by decide +kernel
theorem dX10_findSet_2 : decode cX10_findSet 2 = .ok (.iload_n 3, 1) := by decide +kernel
theorem dX10_findSet_3 : decode cX10_findSet 3 = .ok (.aload_n 0, 1) := by decide +kernel
theorem dX10_findSet_4 : decode cX10_findSet 4 = .ok (.getfield 231, 3) := by decide +kernel
theorem dX10_findSet_7 : decode cX10_findSet 7 = .ok (.if_icmp .ge 70, 3) := by decide +kernel
theorem dX10_findSet_10 : decode cX10_findSet 10 = .ok (.aload_n 0, 1) := by decide +kernel
theorem dX10_findSet_11 : decode cX10_findSet 11 = .ok (.getfield 98, 3) := by decide +kernel
theorem dX10_findSet_14 : decode cX10_findSet 14 = .ok (.iload_n 3, 1) := by decide +kernel
theorem dX10_findSet_15 : decode cX10_findSet 15 = .ok (.iconst 1, 1) := by decide +kernel
theorem dX10_findSet_16 : decode cX10_findSet 16 = .ok (.iload_n 3, 1) := by decide +kernel
theorem dX10_findSet_17 : decode cX10_findSet 17 = .ok (.ishl, 1) := by decide +kernel
theorem dX10_findSet_18 : decode cX10_findSet 18 = .ok (.iastore, 1) := by decide +kernel
theorem dX10_findSet_19 : decode cX10_findSet 19 = .ok (.iconst 0, 1) := by decide +kernel
theorem dX10_findSet_20 : decode cX10_findSet 20 = .ok (.istore 4, 2) := by decide +kernel
theorem dX10_findSet_22 : decode cX10_findSet 22 = .ok (.iload 4, 2) := by decide +kernel
theorem dX10_findSet_24 : decode cX10_findSet 24 = .ok (.aload_n 0, 1) := by decide +kernel
theorem dX10_findSet_25 : decode cX10_findSet 25 = .ok (.getfield 231, 3) := by decide +kernel
theorem dX10_findSet_28 : decode cX10_findSet 28 = .ok (.if_icmp .ge 43, 3) := by decide +kernel
theorem dX10_findSet_31 : decode cX10_findSet 31 = .ok (.aload_n 0, 1) := by decide +kernel
theorem dX10_findSet_32 : decode cX10_findSet 32 = .ok (.getfield 50, 3) := by decide +kernel
theorem dX10_findSet_35 : decode cX10_findSet 35 = .ok (.iload 4, 2) := by decide +kernel
theorem dX10_findSet_37 : decode cX10_findSet 37 = .ok (.laload, 1) := by decide +kernel
theorem dX10_findSet_38 : decode cX10_findSet 38 = .ok (.aload_n 0, 1) := by decide +kernel
theorem dX10_findSet_39 : decode cX10_findSet 39 = .ok (.getfield 50, 3) := by decide +kernel
theorem dX10_findSet_42 : decode cX10_findSet 42 = .ok (.iload_n 3, 1) := by decide +kernel
theorem dX10_findSet_43 : decode cX10_findSet 43 = .ok (.laload, 1) := by decide +kernel
theorem dX10_findSet_44 : decode cX10_findSet 44 = .ok (.iload_n 2, 1) := by decide +kernel
theorem dX10_findSet_45 : decode cX10_findSet 45 = .ok (.invokestatic 265, 3) := by decide +kernel
theorem dX10_findSet_48 : decode cX10_findSet 48 = .ok (.iload_n 1, 1) := by decide +kernel
theorem dX10_findSet_49 : decode cX10_findSet 49 = .ok (.if_icmp .gt 16, 3) := by decide +kernel
theorem dX10_findSet_52 : decode cX10_findSet 52 = .ok (.aload_n 0, 1) := by decide +kernel
theorem dX10_findSet_53 : decode cX10_findSet 53 = .ok (.getfield 98, 3) := by decide +kernel
theorem dX10_findSet_56 : decode cX10_findSet 56 = .ok (.iload_n 3, 1) := by decide +kernel
theorem dX10_findSet_57 : decode cX10_findSet 57 = .ok (.dup2, 1) := by decide +kernel
theorem dX10_findSet_58 : decode cX10_findSet 58 = .ok (.iaload, 1) := by decide +kernel
theorem dX10_findSet_59 : decode cX10_findSet 59 = .ok (.iconst 1, 1) := by decide +kernel
theorem dX10_findSet_60 : decode cX10_findSet 60 = .ok (.iload 4, 2) := by decide +kernel
theorem dX10_findSet_62 : decode cX10_findSet 62 = .ok (.ishl, 1) := by decide +kernel
theorem dX10_findSet_63 : decode cX10_findSet 63 = .ok (.ior, 1) := by decide +kernel
theorem dX10_findSet_64 : decode cX10_findSet 64 = .ok (.iastore, 1) := by decide +kernel
theorem dX10_findSet_65 : decode cX10_findSet 65 = .ok (.iinc 4 1, 3) := by decide +kernel
theorem dX10_findSet_68 : decode cX10_findSet 68 = .ok (.goto (-46), 3) := by decide +kernel
theorem dX10_findSet_71 : decode cX10_findSet 71 = .ok (.iinc 3 1, 3) := by decide +kernel
theorem dX10_findSet_74 : decode cX10_findSet 74 = .ok (.goto (-72), 3) := by decide +kernel
theorem dX10_findSet_77 : decode cX10_findSet 77 = .ok (.iconst 1, 1) := by decide +kernel
theorem dX10_findSet_78 : decode cX10_findSet 78 = .ok (.aload_n 0, 1) := by decide +kernel
theorem dX10_findSet_79 : decode cX10_findSet 79 = .ok (.getfield 231, 3) := by decide +kernel
theorem dX10_findSet_82 : decode cX10_findSet 82 = .ok (.ishl, 1) := by decide +kernel
theorem dX10_findSet_83 : decode cX10_findSet 83 = .ok (.iconst 1, 1) := by decide +kernel
theorem dX10_findSet_84 : decode cX10_findSet 84 = .ok (.isub, 1) := by decide +kernel
theorem dX10_findSet_85 : decode cX10_findSet 85 = .ok (.istore_n 3, 1) := by decide +kernel
theorem dX10_findSet_86 : decode cX10_findSet 86 = .ok (.iconst 0, 1) := by decide +kernel
theorem dX10_findSet_87 : decode cX10_findSet 87 = .ok (.istore 4, 2) := by decide +kernel
theorem dX10_findSet_89 : decode cX10_findSet 89 = .ok (.iload 4, 2) := by decide +kernel
theorem dX10_findSet_91 : decode cX10_findSet 91 = .ok (.iconst 1, 1) := by decide +kernel
theorem dX10_findSet_92 : decode cX10_findSet 92 = .ok (.aload_n 0, 1) := by decide +kernel
theorem dX10_findSet_93 : decode cX10_findSet 93 = .ok (.getfield 231, 3) := by decide +kernel
theorem dX10_findSet_96 : decode cX10_findSet 96 = .ok (.ishl, 1) := by decide +kernel
theorem dX10_findSet_97 : decode cX10_findSet 97 = .ok (.if_icmp .ge 80, 3) := by decide +kernel
theorem dX10_findSet_100 : decode cX10_findSet 100 = .ok (.iload 4, 2) := by decide +kernel
theorem dX10_findSet_102 : decode cX10_findSet 102 = .ok (.i2l, 1) := by decide +kernel
theorem dX10_findSet_103 : decode cX10_findSet 103 = .ok (.invokestatic 243, 3) := by decide +kernel
theorem dX10_findSet_106 : decode cX10_findSet 106 = .ok (.iload_n 3, 1) := by decide +kernel
theorem dX10_findSet_107 : decode cX10_findSet 107 = .ok (.i2l, 1) := by decide +kernel
theorem dX10_findSet_108 : decode cX10_findSet 108 = .ok (.invokestatic 243, 3) := by decide +kernel
theorem dX10_findSet_111 : decode cX10_findSet 111 = .ok (.if_icmp .lt 6, 3) := by decide +kernel
theorem dX10_findSet_114 : decode cX10_findSet 114 = .ok (.goto 57, 3) := by decide +kernel
theorem dX10_findSet_117 : decode cX10_findSet 117 = .ok (.iconst 1, 1) := by decide +kernel
theorem dX10_findSet_118 : decode cX10_findSet 118 = .ok (.istore 5, 2) := by decide +kernel
theorem dX10_findSet_120 : decode cX10_findSet 120 = .ok (.iconst 0, 1) := by decide +kernel
theorem dX10_findSet_121 : decode cX10_findSet 121 = .ok (.istore 6, 2) := by decide +kernel
theorem dX10_findSet_123 : decode cX10_findSet 123 = .ok (.iload 6, 2) := by decide +kernel
theorem dX10_findSet_125 : decode cX10_findSet 125 = .ok (.aload_n 0, 1) := by decide +kernel
theorem dX10_findSet_126 : decode cX10_findSet 126 = .ok (.getfield 231, 3) := by decide +kernel
theorem dX10_findSet_129 : decode cX10_findSet 129 = .ok (.if_icmp .ge 34, 3) := by decide +kernel
theorem dX10_findSet_132 : decode cX10_findSet 132 = .ok (.iload 5, 2) := by decide +kernel
theorem dX10_findSet_134 : decode cX10_findSet 134 = .ok (.ifCond .eq 29, 3) := by decide +kernel
theorem dX10_findSet_137 : decode cX10_findSet 137 = .ok (.aload_n 0, 1) := by decide +kernel
theorem dX10_findSet_138 : decode cX10_findSet 138 = .ok (.getfield 98, 3) := by decide +kernel
theorem dX10_findSet_141 : decode cX10_findSet 141 = .ok (.iload 6, 2) := by decide +kernel
theorem dX10_findSet_143 : decode cX10_findSet 143 = .ok (.iaload, 1) := by decide +kernel
theorem dX10_findSet_144 : decode cX10_findSet 144 = .ok (.iload 4, 2) := by decide +kernel
theorem dX10_findSet_146 : decode cX10_findSet 146 = .ok (.iand, 1) := by decide +kernel
theorem dX10_findSet_147 : decode cX10_findSet 147 = .ok (.ifCond .eq 7, 3) := by decide +kernel
theorem dX10_findSet_150 : decode cX10_findSet 150 = .ok (.iconst 1, 1) := by decide +kernel
theorem dX10_findSet_151 : decode cX10_findSet 151 = .ok (.goto 4, 3) := by decide +kernel
theorem dX10_findSet_154 : decode cX10_findSet 154 = .ok (.iconst 0, 1) := by decide +kernel
theorem dX10_findSet_155 : decode cX10_findSet 155 = .ok (.istore 5, 2) := by decide +kernel
theorem dX10_findSet_157 : decode cX10_findSet 157 = .ok (.iinc 6 1, 3) := by decide +kernel
theorem dX10_findSet_160 : decode cX10_findSet 160 = .ok (.goto (-37), 3) := by decide +kernel
theorem dX10_findSet_163 : decode cX10_findSet 163 = .ok (.iload 5, 2) := by decide +kernel
theorem dX10_findSet_165 : decode cX10_findSet 165 = .ok (.ifCond .eq 6, 3) := by decide +kernel
theorem dX10_findSet_168 : decode cX10_findSet 168 = .ok (.iload 4, 2) := by decide +kernel
theorem dX10_findSet_170 : decode cX10_findSet 170 = .ok (.istore_n 3, 1) := by decide +kernel
theorem dX10_findSet_171 : decode cX10_findSet 171 = .ok (.iinc 4 1, 3) := by decide +kernel
theorem dX10_findSet_174 : decode cX10_findSet 174 = .ok (.goto (-85), 3) := by decide +kernel
theorem dX10_findSet_177 : decode cX10_findSet 177 = .ok (.iload_n 3, 1) := by decide +kernel
theorem dX10_findSet_178 : decode cX10_findSet 178 = .ok (.ireturn, 1) := by decide +kernel
theorem dX10_punches_0 : decode cX10_punches 0 = .ok (.aload_n 0, 1) := by decide +kernel
theorem dX10_punches_1 : decode cX10_punches 1 = .ok (.iconst 0, 1) := by decide +kernel
theorem dX10_punches_2 : decode cX10_punches 2 = .ok (.putfield 112, 3) := by decide +kernel
theorem dX10_punches_5 : decode cX10_punches 5 = .ok (.aload_n 0, 1) := by decide +kernel
theorem dX10_punches_6 : decode cX10_punches 6 = .ok (.iload_n 1, 1) := by decide +kernel
theorem dX10_punches_7 : decode cX10_punches 7 = .ok (.iconst 0, 1) := by decide +kernel
theorem dX10_punches_8 : decode cX10_punches 8 = .ok (.bipush 64, 2) := by decide +kernel
theorem dX10_punches_10 : decode cX10_punches 10 = .ok (.invokestatic 146, 3) := by decide +kernel
theorem dX10_punches_13 : decode cX10_punches 13 = .ok (.ifCond .eq 12, 3) := by decide +kernel
theorem dX10_punches_16 : decode cX10_punches 16 = .ok (.iload_n 3, 1) := by decide +kernel
theorem dX10_punches_17 : decode cX10_punches 17 = .ok (.iconst 0, 1) := by decide +kernel
theorem dX10_punches_18 : decode cX10_punches 18 = .ok (.iconst 1, 1) := by decide +kernel
theorem dX10_punches_19 : decode cX10_punches 19 = .ok (.invokestatic 146, 3) := by decide +kernel
theorem dX10_punches_22 : decode cX10_punches 22 = .ok (.ifCond .ne 7, 3) := by decide +kernel
theorem dX10_punches_25 : decode cX10_punches 25 = .ok (.iconst 1, 1) := by decide +kernel
theorem dX10_punches_26 : decode cX10_punches 26 = .ok (.goto 4, 3) := by decide +kernel
theorem dX10_punches_29 : decode cX10_punches 29 = .ok (.iconst 0, 1) := by decide +kernel
theorem dX10_punches_30 : decode cX10_punches 30 = .ok (.iconst 1, 1) := by decide +kernel
theorem dX10_punches_31 : decode cX10_punches 31 = .ok (.invokevirtual 197, 3) := by decide +kernel
theorem dX10_punches_34 : decode cX10_punches 34 = .ok (.ifCond .eq 5, 3) := by decide +kernel
theorem dX10_punches_37 : decode cX10_punches 37 = .ok (.iconst 0, 1) := by decide +kernel
theorem dX10_punches_38 : decode cX10_punches 38 = .ok (.ireturn, 1) := by decide +kernel
theorem dX10_punches_39 : decode cX10_punches 39 = .ok (.aload_n 0, 1) := by decide +kernel
theorem dX10_punches_40 : decode cX10_punches 40 = .ok (.iload_n 1, 1) := by decide +kernel
theorem dX10_punches_41 : decode cX10_punches 41 = .ok (.iload_n 2, 1) := by decide +kernel
theorem dX10_punches_42 : decode cX10_punches 42 = .ok (.invokevirtual 269, 3) := by decide +kernel
theorem dX10_punches_45 : decode cX10_punches 45 = .ok (.istore 4, 2) := by decide +kernel
theorem dX10_punches_47 : decode cX10_punches 47 = .ok (.iload_n 3, 1) := by decide +kernel
theorem dX10_punches_48 : decode cX10_punches 48 = .ok (.ifCond .ne 12, 3) := by decide +kernel
theorem dX10_punches_51 : decode cX10_punches 51 = .ok (.iload 4, 2) := by decide +kernel
theorem dX10_punches_53 : decode cX10_punches 53 = .ok (.i2l, 1) := by decide +kernel
theorem dX10_punches_54 : decode cX10_punches 54 = .ok (.invokestatic 243, 3) := by decide +kernel
theorem dX10_punches_57 : decode cX10_punches 57 = .ok (.goto 5, 3) := by decide +kernel
theorem dX10_punches_60 : decode cX10_punches 60 = .ok (.iload 4, 2) := by decide +kernel
theorem dX10_punches_62 : decode cX10_punches 62 = .ok (.ireturn, 1) := by decide +kernel
theorem dX10_served_0 : decode cX10_served 0 = .ok (.aload_n 0, 1) := by decide +kernel
theorem dX10_served_1 : decode cX10_served 1 = .ok (.iconst 0, 1) := by decide +kernel
theorem dX10_served_2 : decode cX10_served 2 = .ok (.putfield 112, 3) := by decide +kernel
theorem dX10_served_5 : decode cX10_served 5 = .ok (.aload_n 0, 1) := by decide +kernel
theorem dX10_served_6 : decode cX10_served 6 = .ok (.aload_n 0, 1) := by decide +kernel
theorem dX10_served_7 : decode cX10_served 7 = .ok (.iload_n 1, 1) := by decide +kernel
theorem dX10_served_8 : decode cX10_served 8 = .ok (.invokevirtual 253, 3) := by decide +kernel
theorem dX10_served_11 : decode cX10_served 11 = .ok (.ifCond .ne 7, 3) := by decide +kernel
theorem dX10_served_14 : decode cX10_served 14 = .ok (.iconst 1, 1) := by decide +kernel
theorem dX10_served_15 : decode cX10_served 15 = .ok (.goto 4, 3) := by decide +kernel
theorem dX10_served_18 : decode cX10_served 18 = .ok (.iconst 0, 1) := by decide +kernel
theorem dX10_served_19 : decode cX10_served 19 = .ok (.iconst 1, 1) := by decide +kernel
theorem dX10_served_20 : decode cX10_served 20 = .ok (.invokevirtual 197, 3) := by decide +kernel
theorem dX10_served_23 : decode cX10_served 23 = .ok (.ifCond .ne 26, 3) := by decide +kernel
theorem dX10_served_26 : decode cX10_served 26 = .ok (.aload_n 0, 1) := by decide +kernel
theorem dX10_served_27 : decode cX10_served 27 = .ok (.iload_n 2, 1) := by decide +kernel
theorem dX10_served_28 : decode cX10_served 28 = .ok (.iconst 0, 1) := by decide +kernel
theorem dX10_served_29 : decode cX10_served 29 = .ok (.bipush 64, 2) := by decide +kernel
theorem dX10_served_31 : decode cX10_served 31 = .ok (.invokestatic 146, 3) := by decide +kernel
theorem dX10_served_34 : decode cX10_served 34 = .ok (.ifCond .ne 7, 3) := by decide +kernel
theorem dX10_served_37 : decode cX10_served 37 = .ok (.iconst 1, 1) := by decide +kernel
theorem dX10_served_38 : decode cX10_served 38 = .ok (.goto 4, 3) := by decide +kernel
theorem dX10_served_41 : decode cX10_served 41 = .ok (.iconst 0, 1) := by decide +kernel
theorem dX10_served_42 : decode cX10_served 42 = .ok (.iconst 2, 1) := by decide +kernel
theorem dX10_served_43 : decode cX10_served 43 = .ok (.invokevirtual 197, 3) := by decide +kernel
theorem dX10_served_46 : decode cX10_served 46 = .ok (.ifCond .eq 5, 3) := by decide +kernel
theorem dX10_served_49 : decode cX10_served 49 = .ok (.iconst 0, 1) := by decide +kernel
theorem dX10_served_50 : decode cX10_served 50 = .ok (.ireturn, 1) := by decide +kernel
theorem dX10_served_51 : decode cX10_served 51 = .ok (.aload_n 0, 1) := by decide +kernel
theorem dX10_served_52 : decode cX10_served 52 = .ok (.iload_n 2, 1) := by decide +kernel
theorem dX10_served_53 : decode cX10_served 53 = .ok (.iload_n 3, 1) := by decide +kernel
theorem dX10_served_54 : decode cX10_served 54 = .ok (.invokevirtual 269, 3) := by decide +kernel
theorem dX10_served_57 : decode cX10_served 57 = .ok (.aload_n 0, 1) := by decide +kernel
theorem dX10_served_58 : decode cX10_served 58 = .ok (.getfield 98, 3) := by decide +kernel
theorem dX10_served_61 : decode cX10_served 61 = .ok (.iload_n 1, 1) := by decide +kernel
theorem dX10_served_62 : decode cX10_served 62 = .ok (.iaload, 1) := by decide +kernel
theorem dX10_served_63 : decode cX10_served 63 = .ok (.iand, 1) := by decide +kernel
theorem dX10_served_64 : decode cX10_served 64 = .ok (.istore 4, 2) := by decide +kernel
theorem dX10_served_66 : decode cX10_served 66 = .ok (.iconst 0, 1) := by decide +kernel
theorem dX10_served_67 : decode cX10_served 67 = .ok (.istore 5, 2) := by decide +kernel
theorem dX10_served_69 : decode cX10_served 69 = .ok (.iload 4, 2) := by decide +kernel
theorem dX10_served_71 : decode cX10_served 71 = .ok (.iload 5, 2) := by decide +kernel
theorem dX10_served_73 : decode cX10_served 73 = .ok (.ishr, 1) := by decide +kernel
theorem dX10_served_74 : decode cX10_served 74 = .ok (.iconst 1, 1) := by decide +kernel
theorem dX10_served_75 : decode cX10_served 75 = .ok (.iand, 1) := by decide +kernel
theorem dX10_served_76 : decode cX10_served 76 = .ok (.ifCond .ne 9, 3) := by decide +kernel
theorem dX10_served_79 : decode cX10_served 79 = .ok (.iinc 5 1, 3) := by decide +kernel
theorem dX10_served_82 : decode cX10_served 82 = .ok (.goto (-13), 3) := by decide +kernel
theorem dX10_served_85 : decode cX10_served 85 = .ok (.iload 5, 2) := by decide +kernel
theorem dX10_served_87 : decode cX10_served 87 = .ok (.ireturn, 1) := by decide +kernel
theorem dX10_findTakes_0 : decode cX10_findTakes 0 = .ok (.iconst 0, 1) := by decide +kernel
theorem dX10_findTakes_1 : decode cX10_findTakes 1 = .ok (.istore_n 3, 1) := by decide +kernel
theorem dX10_findTakes_2 : decode cX10_findTakes 2 = .ok (.iload_n 3, 1) := by decide +kernel
theorem dX10_findTakes_3 : decode cX10_findTakes 3 = .ok (.bipush 32, 2) := by decide +kernel
theorem dX10_findTakes_5 : decode cX10_findTakes 5 = .ok (.if_icmp .ge 16, 3) := by decide +kernel
theorem dX10_findTakes_8 : decode cX10_findTakes 8 = .ok (.aload_n 0, 1) := by decide +kernel
theorem dX10_findTakes_9 : decode cX10_findTakes 9 = .ok (.getfield 70, 3) := by decide +kernel
theorem dX10_findTakes_12 : decode cX10_findTakes 12 = .ok (.iload_n 3, 1) := by decide +kernel
theorem dX10_findTakes_13 : decode cX10_findTakes 13 = .ok (.lconst 0, 1) := by decide +kernel
theorem dX10_findTakes_14 : decode cX10_findTakes 14 = .ok (.lastore, 1) := by decide +kernel
theorem dX10_findTakes_15 : decode cX10_findTakes 15 = .ok (.iinc 3 1, 3) := by decide +kernel
theorem dX10_findTakes_18 : decode cX10_findTakes 18 = .ok (.goto (-16), 3) := by decide +kernel
theorem dX10_findTakes_21 : decode cX10_findTakes 21 = .ok (.iconst 0, 1) := by decide +kernel
theorem dX10_findTakes_22 : decode cX10_findTakes 22 = .ok (.istore_n 3, 1) := by decide +kernel
theorem dX10_findTakes_23 : decode cX10_findTakes 23 = .ok (.iload_n 3, 1) := by decide +kernel
theorem dX10_findTakes_24 : decode cX10_findTakes 24 = .ok (.bipush 64, 2) := by decide +kernel
theorem dX10_findTakes_26 : decode cX10_findTakes 26 = .ok (.if_icmp .ge 158, 3) := by decide +kernel
theorem dX10_findTakes_29 : decode cX10_findTakes 29 = .ok (.iload_n 3, 1) := by decide +kernel
theorem dX10_findTakes_30 : decode cX10_findTakes 30 = .ok (.bipush 8, 2) := by decide +kernel
theorem dX10_findTakes_32 : decode cX10_findTakes 32 = .ok (.irem, 1) := by decide +kernel
theorem dX10_findTakes_33 : decode cX10_findTakes 33 = .ok (.istore 4, 2) := by decide +kernel
theorem dX10_findTakes_35 : decode cX10_findTakes 35 = .ok (.iload_n 3, 1) := by decide +kernel
theorem dX10_findTakes_36 : decode cX10_findTakes 36 = .ok (.bipush 8, 2) := by decide +kernel
theorem dX10_findTakes_38 : decode cX10_findTakes 38 = .ok (.idiv, 1) := by decide +kernel
theorem dX10_findTakes_39 : decode cX10_findTakes 39 = .ok (.istore 5, 2) := by decide +kernel
theorem dX10_findTakes_41 : decode cX10_findTakes 41 = .ok (.aload_n 0, 1) := by decide +kernel
theorem dX10_findTakes_42 : decode cX10_findTakes 42 = .ok (.getfield 73, 3) := by decide +kernel
theorem dX10_findTakes_45 : decode cX10_findTakes 45 = .ok (.iload_n 3, 1) := by decide +kernel
theorem dX10_findTakes_46 : decode cX10_findTakes 46 = .ok (.lload_n 1, 1) := by decide +kernel
theorem dX10_findTakes_47 : decode cX10_findTakes 47 = .ok (.iload_n 3, 1) := by decide +kernel
theorem dX10_findTakes_48 : decode cX10_findTakes 48 = .ok (.iconst (-1), 1) := by decide +kernel
theorem dX10_findTakes_49 : decode cX10_findTakes 49 = .ok (.iconst 0, 1) := by decide +kernel
theorem dX10_findTakes_50 : decode cX10_findTakes 50 = .ok (.invokestatic 223, 3) := by decide +kernel
theorem dX10_findTakes_53 : decode cX10_findTakes 53 = .ok (.ifCond .eq 8, 3) := by decide +kernel
theorem dX10_findTakes_56 : decode cX10_findTakes 56 = .ok (.iload 5, 2) := by decide +kernel
theorem dX10_findTakes_58 : decode cX10_findTakes 58 = .ok (.goto 22, 3) := by decide +kernel
theorem dX10_findTakes_61 : decode cX10_findTakes 61 = .ok (.lload_n 1, 1) := by decide +kernel
theorem dX10_findTakes_62 : decode cX10_findTakes 62 = .ok (.iload_n 3, 1) := by decide +kernel
theorem dX10_findTakes_63 : decode cX10_findTakes 63 = .ok (.iconst 1, 1) := by decide +kernel
theorem dX10_findTakes_64 : decode cX10_findTakes 64 = .ok (.iconst 0, 1) := by decide +kernel
theorem dX10_findTakes_65 : decode cX10_findTakes 65 = .ok (.invokestatic 223, 3) := by decide +kernel
theorem dX10_findTakes_68 : decode cX10_findTakes 68 = .ok (.ifCond .eq 11, 3) := by decide +kernel
theorem dX10_findTakes_71 : decode cX10_findTakes 71 = .ok (.bipush 8, 2) := by decide +kernel
theorem dX10_findTakes_73 : decode cX10_findTakes 73 = .ok (.iload 5, 2) := by decide +kernel
theorem dX10_findTakes_75 : decode cX10_findTakes 75 = .ok (.iadd, 1) := by decide +kernel
theorem dX10_findTakes_76 : decode cX10_findTakes 76 = .ok (.goto 4, 3) := by decide +kernel
theorem dX10_findTakes_79 : decode cX10_findTakes 79 = .ok (.iconst (-1), 1) := by decide +kernel
theorem dX10_findTakes_80 : decode cX10_findTakes 80 = .ok (.iastore, 1) := by decide +kernel
theorem dX10_findTakes_81 : decode cX10_findTakes 81 = .ok (.aload_n 0, 1) := by decide +kernel
theorem dX10_findTakes_82 : decode cX10_findTakes 82 = .ok (.getfield 76, 3) := by decide +kernel
theorem dX10_findTakes_85 : decode cX10_findTakes 85 = .ok (.iload_n 3, 1) := by decide +kernel
theorem dX10_findTakes_86 : decode cX10_findTakes 86 = .ok (.lload_n 1, 1) := by decide +kernel
theorem dX10_findTakes_87 : decode cX10_findTakes 87 = .ok (.iload_n 3, 1) := by decide +kernel
theorem dX10_findTakes_88 : decode cX10_findTakes 88 = .ok (.iconst 0, 1) := by decide +kernel
theorem dX10_findTakes_89 : decode cX10_findTakes 89 = .ok (.iconst (-1), 1) := by decide +kernel
theorem dX10_findTakes_90 : decode cX10_findTakes 90 = .ok (.invokestatic 223, 3) := by decide +kernel
theorem dX10_findTakes_93 : decode cX10_findTakes 93 = .ok (.ifCond .eq 11, 3) := by decide +kernel
theorem dX10_findTakes_96 : decode cX10_findTakes 96 = .ok (.bipush 16, 2) := by decide +kernel
theorem dX10_findTakes_98 : decode cX10_findTakes 98 = .ok (.iload 4, 2) := by decide +kernel
theorem dX10_findTakes_100 : decode cX10_findTakes 100 = .ok (.iadd, 1) := by decide +kernel
theorem dX10_findTakes_101 : decode cX10_findTakes 101 = .ok (.goto 22, 3) := by decide +kernel
theorem dX10_findTakes_104 : decode cX10_findTakes 104 = .ok (.lload_n 1, 1) := by decide +kernel
theorem dX10_findTakes_105 : decode cX10_findTakes 105 = .ok (.iload_n 3, 1) := by decide +kernel
theorem dX10_findTakes_106 : decode cX10_findTakes 106 = .ok (.iconst 0, 1) := by decide +kernel
theorem dX10_findTakes_107 : decode cX10_findTakes 107 = .ok (.iconst 1, 1) := by decide +kernel
theorem dX10_findTakes_108 : decode cX10_findTakes 108 = .ok (.invokestatic 223, 3) := by decide +kernel
theorem dX10_findTakes_111 : decode cX10_findTakes 111 = .ok (.ifCond .eq 11, 3) := by decide +kernel
theorem dX10_findTakes_114 : decode cX10_findTakes 114 = .ok (.bipush 24, 2) := by decide +kernel
theorem dX10_findTakes_116 : decode cX10_findTakes 116 = .ok (.iload 4, 2) := by decide +kernel
theorem dX10_findTakes_118 : decode cX10_findTakes 118 = .ok (.iadd, 1) := by decide +kernel
theorem dX10_findTakes_119 : decode cX10_findTakes 119 = .ok (.goto 4, 3) := by decide +kernel
theorem dX10_findTakes_122 : decode cX10_findTakes 122 = .ok (.iconst (-1), 1) := by decide +kernel
theorem dX10_findTakes_123 : decode cX10_findTakes 123 = .ok (.iastore, 1) := by decide +kernel
theorem dX10_findTakes_124 : decode cX10_findTakes 124 = .ok (.aload_n 0, 1) := by decide +kernel
theorem dX10_findTakes_125 : decode cX10_findTakes 125 = .ok (.getfield 73, 3) := by decide +kernel
theorem dX10_findTakes_128 : decode cX10_findTakes 128 = .ok (.iload_n 3, 1) := by decide +kernel
theorem dX10_findTakes_129 : decode cX10_findTakes 129 = .ok (.iaload, 1) := by decide +kernel
theorem dX10_findTakes_130 : decode cX10_findTakes 130 = .ok (.iconst (-1), 1) := by decide +kernel
theorem dX10_findTakes_131 : decode cX10_findTakes 131 = .ok (.if_icmp .eq 20, 3) := by decide +kernel
theorem dX10_findTakes_134 : decode cX10_findTakes 134 = .ok (.aload_n 0, 1) := by decide +kernel
theorem dX10_findTakes_135 : decode cX10_findTakes 135 = .ok (.getfield 70, 3) := by decide +kernel
theorem dX10_findTakes_138 : decode cX10_findTakes 138 = .ok (.aload_n 0, 1) := by decide +kernel
theorem dX10_findTakes_139 : decode cX10_findTakes 139 = .ok (.getfield 73, 3) := by decide +kernel
theorem dX10_findTakes_142 : decode cX10_findTakes 142 = .ok (.iload_n 3, 1) := by decide +kernel
theorem dX10_findTakes_143 : decode cX10_findTakes 143 = .ok (.iaload, 1) := by decide +kernel
theorem dX10_findTakes_144 : decode cX10_findTakes 144 = .ok (.dup2, 1) := by decide +kernel
theorem dX10_findTakes_145 : decode cX10_findTakes 145 = .ok (.laload, 1) := by decide +kernel
theorem dX10_findTakes_146 : decode cX10_findTakes 146 = .ok (.lconst 1, 1) := by decide +kernel
theorem dX10_findTakes_147 : decode cX10_findTakes 147 = .ok (.iload_n 3, 1) := by decide +kernel
theorem dX10_findTakes_148 : decode cX10_findTakes 148 = .ok (.lshl, 1) := by decide +kernel
theorem dX10_findTakes_149 : decode cX10_findTakes 149 = .ok (.lor, 1) := by decide +kernel
theorem dX10_findTakes_150 : decode cX10_findTakes 150 = .ok (.lastore, 1) := by decide +kernel
theorem dX10_findTakes_151 : decode cX10_findTakes 151 = .ok (.aload_n 0, 1) := by decide +kernel
theorem dX10_findTakes_152 : decode cX10_findTakes 152 = .ok (.getfield 76, 3) := by decide +kernel
theorem dX10_findTakes_155 : decode cX10_findTakes 155 = .ok (.iload_n 3, 1) := by decide +kernel
theorem dX10_findTakes_156 : decode cX10_findTakes 156 = .ok (.iaload, 1) := by decide +kernel
theorem dX10_findTakes_157 : decode cX10_findTakes 157 = .ok (.iconst (-1), 1) := by decide +kernel
theorem dX10_findTakes_158 : decode cX10_findTakes 158 = .ok (.if_icmp .eq 20, 3) := by decide +kernel
theorem dX10_findTakes_161 : decode cX10_findTakes 161 = .ok (.aload_n 0, 1) := by decide +kernel
theorem dX10_findTakes_162 : decode cX10_findTakes 162 = .ok (.getfield 70, 3) := by decide +kernel
theorem dX10_findTakes_165 : decode cX10_findTakes 165 = .ok (.aload_n 0, 1) := by decide +kernel
theorem dX10_findTakes_166 : decode cX10_findTakes 166 = .ok (.getfield 76, 3) := by decide +kernel
theorem dX10_findTakes_169 : decode cX10_findTakes 169 = .ok (.iload_n 3, 1) := by decide +kernel
theorem dX10_findTakes_170 : decode cX10_findTakes 170 = .ok (.iaload, 1) := by decide +kernel
theorem dX10_findTakes_171 : decode cX10_findTakes 171 = .ok (.dup2, 1) := by decide +kernel
theorem dX10_findTakes_172 : decode cX10_findTakes 172 = .ok (.laload, 1) := by decide +kernel
theorem dX10_findTakes_173 : decode cX10_findTakes 173 = .ok (.lconst 1, 1) := by decide +kernel
theorem dX10_findTakes_174 : decode cX10_findTakes 174 = .ok (.iload_n 3, 1) := by decide +kernel
theorem dX10_findTakes_175 : decode cX10_findTakes 175 = .ok (.lshl, 1) := by decide +kernel
theorem dX10_findTakes_176 : decode cX10_findTakes 176 = .ok (.lor, 1) := by decide +kernel
theorem dX10_findTakes_177 : decode cX10_findTakes 177 = .ok (.lastore, 1) := by decide +kernel
theorem dX10_findTakes_178 : decode cX10_findTakes 178 = .ok (.iinc 3 1, 3) := by decide +kernel
theorem dX10_findTakes_181 : decode cX10_findTakes 181 = .ok (.goto (-158), 3) := by decide +kernel
theorem dX10_findTakes_184 : decode cX10_findTakes 184 = .ok (.return_, 1) := by decide +kernel
theorem dX10_fewestLines_0 : decode cX10_fewestLines 0 = .ok (.iconst 0, 1) := by decide +kernel
theorem dX10_fewestLines_1 : decode cX10_fewestLines 1 = .ok (.istore 5, 2) := by decide +kernel
theorem dX10_fewestLines_3 : decode cX10_fewestLines 3 = .ok (.iload_n 3, 1) := by decide +kernel
theorem dX10_fewestLines_4 : decode cX10_fewestLines 4 = .ok (.istore 6, 2) := by decide +kernel
theorem dX10_fewestLines_6 : decode cX10_fewestLines 6 = .ok (.iconst 0, 1) := by decide +kernel
theorem dX10_fewestLines_7 : decode cX10_fewestLines 7 = .ok (.istore 7, 2) := by decide +kernel
theorem dX10_fewestLines_9 : decode cX10_fewestLines 9 = .ok (.iload 7, 2) := by decide +kernel
theorem dX10_fewestLines_11 : decode cX10_fewestLines 11 = .ok (.bipush 64, 2) := by decide +kernel
theorem dX10_fewestLines_13 : decode cX10_fewestLines 13 = .ok (.if_icmp .ge 109, 3) := by decide +kernel
theorem dX10_fewestLines_16 : decode cX10_fewestLines 16 = .ok (.lload_n 1, 1) := by decide +kernel
theorem dX10_fewestLines_17 : decode cX10_fewestLines 17 = .ok (.iload 7, 2) := by decide +kernel
theorem dX10_fewestLines_19 : decode cX10_fewestLines 19 = .ok (.invokestatic 191, 3) := by decide +kernel
theorem dX10_fewestLines_22 : decode cX10_fewestLines 22 = .ok (.ifCond .ne 6, 3) := by decide +kernel
theorem dX10_fewestLines_25 : decode cX10_fewestLines 25 = .ok (.goto 91, 3) := by decide +kernel
theorem dX10_fewestLines_28 : decode cX10_fewestLines 28 = .ok (.aload_n 0, 1) := by decide +kernel
theorem dX10_fewestLines_29 : decode cX10_fewestLines 29 = .ok (.getfield 73, 3) := by decide +kernel
theorem dX10_fewestLines_32 : decode cX10_fewestLines 32 = .ok (.iload 7, 2) := by decide +kernel
theorem dX10_fewestLines_34 : decode cX10_fewestLines 34 = .ok (.iaload, 1) := by decide +kernel
theorem dX10_fewestLines_35 : decode cX10_fewestLines 35 = .ok (.iload 4, 2) := by decide +kernel
theorem dX10_fewestLines_37 : decode cX10_fewestLines 37 = .ok (.invokestatic 273, 3) := by decide +kernel
theorem dX10_fewestLines_40 : decode cX10_fewestLines 40 = .ok (.istore 8, 2) := by decide +kernel
theorem dX10_fewestLines_42 : decode cX10_fewestLines 42 = .ok (.aload_n 0, 1) := by decide +kernel
theorem dX10_fewestLines_43 : decode cX10_fewestLines 43 = .ok (.getfield 76, 3) := by decide +kernel
theorem dX10_fewestLines_46 : decode cX10_fewestLines 46 = .ok (.iload 7, 2) := by decide +kernel
theorem dX10_fewestLines_48 : decode cX10_fewestLines 48 = .ok (.iaload, 1) := by decide +kernel
theorem dX10_fewestLines_49 : decode cX10_fewestLines 49 = .ok (.iload 4, 2) := by decide +kernel
theorem dX10_fewestLines_51 : decode cX10_fewestLines 51 = .ok (.invokestatic 273, 3) := by decide +kernel
theorem dX10_fewestLines_54 : decode cX10_fewestLines 54 = .ok (.istore 9, 2) := by decide +kernel
theorem dX10_fewestLines_56 : decode cX10_fewestLines 56 = .ok (.iload 8, 2) := by decide +kernel
theorem dX10_fewestLines_58 : decode cX10_fewestLines 58 = .ok (.ifCond .ne 10, 3) := by decide +kernel
theorem dX10_fewestLines_61 : decode cX10_fewestLines 61 = .ok (.iload 9, 2) := by decide +kernel
theorem dX10_fewestLines_63 : decode cX10_fewestLines 63 = .ok (.ifCond .ne 5, 3) := by decide +kernel
theorem dX10_fewestLines_66 : decode cX10_fewestLines 66 = .ok (.iconst (-1), 1) := by decide +kernel
theorem dX10_fewestLines_67 : decode cX10_fewestLines 67 = .ok (.ireturn, 1) := by decide +kernel
theorem dX10_fewestLines_68 : decode cX10_fewestLines 68 = .ok (.iload 8, 2) := by decide +kernel
theorem dX10_fewestLines_70 : decode cX10_fewestLines 70 = .ok (.ifCond .eq 22, 3) := by decide +kernel
theorem dX10_fewestLines_73 : decode cX10_fewestLines 73 = .ok (.iload 9, 2) := by decide +kernel
theorem dX10_fewestLines_75 : decode cX10_fewestLines 75 = .ok (.ifCond .ne 17, 3) := by decide +kernel
theorem dX10_fewestLines_78 : decode cX10_fewestLines 78 = .ok (.iload 6, 2) := by decide +kernel
theorem dX10_fewestLines_80 : decode cX10_fewestLines 80 = .ok (.iconst 1, 1) := by decide +kernel
theorem dX10_fewestLines_81 : decode cX10_fewestLines 81 = .ok (.aload_n 0, 1) := by decide +kernel
theorem dX10_fewestLines_82 : decode cX10_fewestLines 82 = .ok (.getfield 73, 3) := by decide +kernel
theorem dX10_fewestLines_85 : decode cX10_fewestLines 85 = .ok (.iload 7, 2) := by decide +kernel
theorem dX10_fewestLines_87 : decode cX10_fewestLines 87 = .ok (.iaload, 1) := by decide +kernel
theorem dX10_fewestLines_88 : decode cX10_fewestLines 88 = .ok (.ishl, 1) := by decide +kernel
theorem dX10_fewestLines_89 : decode cX10_fewestLines 89 = .ok (.ior, 1) := by decide +kernel
theorem dX10_fewestLines_90 : decode cX10_fewestLines 90 = .ok (.istore 6, 2) := by decide +kernel
theorem dX10_fewestLines_92 : decode cX10_fewestLines 92 = .ok (.iload 9, 2) := by decide +kernel
theorem dX10_fewestLines_94 : decode cX10_fewestLines 94 = .ok (.ifCond .eq 22, 3) := by decide +kernel
theorem dX10_fewestLines_97 : decode cX10_fewestLines 97 = .ok (.iload 8, 2) := by decide +kernel
theorem dX10_fewestLines_99 : decode cX10_fewestLines 99 = .ok (.ifCond .ne 17, 3) := by decide +kernel
theorem dX10_fewestLines_102 : decode cX10_fewestLines 102 = .ok (.iload 6, 2) := by decide +kernel
theorem dX10_fewestLines_104 : decode cX10_fewestLines 104 = .ok (.iconst 1, 1) := by decide +kernel
theorem dX10_fewestLines_105 : decode cX10_fewestLines 105 = .ok (.aload_n 0, 1) := by decide +kernel
theorem dX10_fewestLines_106 : decode cX10_fewestLines 106 = .ok (.getfield 76, 3) := by decide +kernel
theorem dX10_fewestLines_109 : decode cX10_fewestLines 109 = .ok (.iload 7, 2) := by decide +kernel
theorem dX10_fewestLines_111 : decode cX10_fewestLines 111 = .ok (.iaload, 1) := by decide +kernel
theorem dX10_fewestLines_112 : decode cX10_fewestLines 112 = .ok (.ishl, 1) := by decide +kernel
theorem dX10_fewestLines_113 : decode cX10_fewestLines 113 = .ok (.ior, 1) := by decide +kernel
theorem dX10_fewestLines_114 : decode cX10_fewestLines 114 = .ok (.istore 6, 2) := by decide +kernel
theorem dX10_fewestLines_116 : decode cX10_fewestLines 116 = .ok (.iinc 7 1, 3) := by decide +kernel
theorem dX10_fewestLines_119 : decode cX10_fewestLines 119 = .ok (.goto (-110), 3) := by decide +kernel
theorem dX10_fewestLines_122 : decode cX10_fewestLines 122 = .ok (.iconst 0, 1) := by decide +kernel
theorem dX10_fewestLines_123 : decode cX10_fewestLines 123 = .ok (.istore 7, 2) := by decide +kernel
theorem dX10_fewestLines_125 : decode cX10_fewestLines 125 = .ok (.iload 7, 2) := by decide +kernel
theorem dX10_fewestLines_127 : decode cX10_fewestLines 127 = .ok (.bipush 32, 2) := by decide +kernel
theorem dX10_fewestLines_129 : decode cX10_fewestLines 129 = .ok (.if_icmp .ge 39, 3) := by decide +kernel
theorem dX10_fewestLines_132 : decode cX10_fewestLines 132 = .ok (.iload 5, 2) := by decide +kernel
theorem dX10_fewestLines_134 : decode cX10_fewestLines 134 = .ok (.iload 6, 2) := by decide +kernel
theorem dX10_fewestLines_136 : decode cX10_fewestLines 136 = .ok (.iload 7, 2) := by decide +kernel
theorem dX10_fewestLines_138 : decode cX10_fewestLines 138 = .ok (.ishr, 1) := by decide +kernel
theorem dX10_fewestLines_139 : decode cX10_fewestLines 139 = .ok (.iconst 1, 1) := by decide +kernel
theorem dX10_fewestLines_140 : decode cX10_fewestLines 140 = .ok (.iand, 1) := by decide +kernel
theorem dX10_fewestLines_141 : decode cX10_fewestLines 141 = .ok (.iconst 1, 1) := by decide +kernel
theorem dX10_fewestLines_142 : decode cX10_fewestLines 142 = .ok (.if_icmp .ne 16, 3) := by decide +kernel
theorem dX10_fewestLines_145 : decode cX10_fewestLines 145 = .ok (.iload_n 3, 1) := by decide +kernel
theorem dX10_fewestLines_146 : decode cX10_fewestLines 146 = .ok (.iload 7, 2) := by decide +kernel
theorem dX10_fewestLines_148 : decode cX10_fewestLines 148 = .ok (.ishr, 1) := by decide +kernel
theorem dX10_fewestLines_149 : decode cX10_fewestLines 149 = .ok (.iconst 1, 1) := by decide +kernel
theorem dX10_fewestLines_150 : decode cX10_fewestLines 150 = .ok (.iand, 1) := by decide +kernel
theorem dX10_fewestLines_151 : decode cX10_fewestLines 151 = .ok (.ifCond .ne 7, 3) := by decide +kernel
theorem dX10_fewestLines_154 : decode cX10_fewestLines 154 = .ok (.iconst 1, 1) := by decide +kernel
theorem dX10_fewestLines_155 : decode cX10_fewestLines 155 = .ok (.goto 4, 3) := by decide +kernel
theorem dX10_fewestLines_158 : decode cX10_fewestLines 158 = .ok (.iconst 0, 1) := by decide +kernel
theorem dX10_fewestLines_159 : decode cX10_fewestLines 159 = .ok (.iadd, 1) := by decide +kernel
theorem dX10_fewestLines_160 : decode cX10_fewestLines 160 = .ok (.istore 5, 2) := by decide +kernel
theorem dX10_fewestLines_162 : decode cX10_fewestLines 162 = .ok (.iinc 7 1, 3) := by decide +kernel
theorem dX10_fewestLines_165 : decode cX10_fewestLines 165 = .ok (.goto (-40), 3) := by decide +kernel
theorem dX10_fewestLines_168 : decode cX10_fewestLines 168 = .ok (.aload_n 0, 1) := by decide +kernel
theorem dX10_fewestLines_169 : decode cX10_fewestLines 169 = .ok (.iload 6, 2) := by decide +kernel
theorem dX10_fewestLines_171 : decode cX10_fewestLines 171 = .ok (.putfield 277, 3) := by decide +kernel
theorem dX10_fewestLines_174 : decode cX10_fewestLines 174 = .ok (.iconst 0, 1) := by decide +kernel
theorem dX10_fewestLines_175 : decode cX10_fewestLines 175 = .ok (.istore 7, 2) := by decide +kernel
theorem dX10_fewestLines_177 : decode cX10_fewestLines 177 = .ok (.iload 7, 2) := by decide +kernel
theorem dX10_fewestLines_179 : decode cX10_fewestLines 179 = .ok (.bipush 32, 2) := by decide +kernel
theorem dX10_fewestLines_181 : decode cX10_fewestLines 181 = .ok (.if_icmp .ge 17, 3) := by decide +kernel
theorem dX10_fewestLines_184 : decode cX10_fewestLines 184 = .ok (.aload_n 0, 1) := by decide +kernel
theorem dX10_fewestLines_185 : decode cX10_fewestLines 185 = .ok (.getfield 79, 3) := by decide +kernel
theorem dX10_fewestLines_188 : decode cX10_fewestLines 188 = .ok (.iload 7, 2) := by decide +kernel
theorem dX10_fewestLines_190 : decode cX10_fewestLines 190 = .ok (.iconst (-1), 1) := by decide +kernel
theorem dX10_fewestLines_191 : decode cX10_fewestLines 191 = .ok (.iastore, 1) := by decide +kernel
theorem dX10_fewestLines_192 : decode cX10_fewestLines 192 = .ok (.iinc 7 1, 3) := by decide +kernel
theorem dX10_fewestLines_195 : decode cX10_fewestLines 195 = .ok (.goto (-18), 3) := by decide +kernel
theorem dX10_fewestLines_198 : decode cX10_fewestLines 198 = .ok (.iconst 0, 1) := by decide +kernel
theorem dX10_fewestLines_199 : decode cX10_fewestLines 199 = .ok (.istore 7, 2) := by decide +kernel
theorem dX10_fewestLines_201 : decode cX10_fewestLines 201 = .ok (.iload 7, 2) := by decide +kernel
theorem dX10_fewestLines_203 : decode cX10_fewestLines 203 = .ok (.bipush 16, 2) := by decide +kernel
theorem dX10_fewestLines_205 : decode cX10_fewestLines 205 = .ok (.if_icmp .ge 53, 3) := by decide +kernel
theorem dX10_fewestLines_208 : decode cX10_fewestLines 208 = .ok (.iconst 0, 1) := by decide +kernel
theorem dX10_fewestLines_209 : decode cX10_fewestLines 209 = .ok (.istore 8, 2) := by decide +kernel
theorem dX10_fewestLines_211 : decode cX10_fewestLines 211 = .ok (.iload 8, 2) := by decide +kernel
theorem dX10_fewestLines_213 : decode cX10_fewestLines 213 = .ok (.bipush 32, 2) := by decide +kernel
theorem dX10_fewestLines_215 : decode cX10_fewestLines 215 = .ok (.if_icmp .ge 17, 3) := by decide +kernel
theorem dX10_fewestLines_218 : decode cX10_fewestLines 218 = .ok (.aload_n 0, 1) := by decide +kernel
theorem dX10_fewestLines_219 : decode cX10_fewestLines 219 = .ok (.getfield 82, 3) := by decide +kernel
theorem dX10_fewestLines_222 : decode cX10_fewestLines 222 = .ok (.iload 8, 2) := by decide +kernel
theorem dX10_fewestLines_224 : decode cX10_fewestLines 224 = .ok (.iconst 0, 1) := by decide +kernel
theorem dX10_fewestLines_225 : decode cX10_fewestLines 225 = .ok (.bastore, 1) := by decide +kernel
theorem dX10_fewestLines_226 : decode cX10_fewestLines 226 = .ok (.iinc 8 1, 3) := by decide +kernel
theorem dX10_fewestLines_229 : decode cX10_fewestLines 229 = .ok (.goto (-18), 3) := by decide +kernel
theorem dX10_fewestLines_232 : decode cX10_fewestLines 232 = .ok (.iload 5, 2) := by decide +kernel
theorem dX10_fewestLines_234 : decode cX10_fewestLines 234 = .ok (.aload_n 0, 1) := by decide +kernel
theorem dX10_fewestLines_235 : decode cX10_fewestLines 235 = .ok (.lload_n 1, 1) := by decide +kernel
theorem dX10_fewestLines_236 : decode cX10_fewestLines 236 = .ok (.iload 7, 2) := by decide +kernel
theorem dX10_fewestLines_238 : decode cX10_fewestLines 238 = .ok (.invokevirtual 280, 3) := by decide +kernel
theorem dX10_fewestLines_241 : decode cX10_fewestLines 241 = .ok (.ifCond .eq 7, 3) := by decide +kernel
theorem dX10_fewestLines_244 : decode cX10_fewestLines 244 = .ok (.iconst 1, 1) := by decide +kernel
theorem dX10_fewestLines_245 : decode cX10_fewestLines 245 = .ok (.goto 4, 3) := by decide +kernel
theorem dX10_fewestLines_248 : decode cX10_fewestLines 248 = .ok (.iconst 0, 1) := by decide +kernel
theorem dX10_fewestLines_249 : decode cX10_fewestLines 249 = .ok (.iadd, 1) := by decide +kernel
theorem dX10_fewestLines_250 : decode cX10_fewestLines 250 = .ok (.istore 5, 2) := by decide +kernel
theorem dX10_fewestLines_252 : decode cX10_fewestLines 252 = .ok (.iinc 7 1, 3) := by decide +kernel
theorem dX10_fewestLines_255 : decode cX10_fewestLines 255 = .ok (.goto (-54), 3) := by decide +kernel
theorem dX10_fewestLines_258 : decode cX10_fewestLines 258 = .ok (.iload 5, 2) := by decide +kernel
theorem dX10_fewestLines_260 : decode cX10_fewestLines 260 = .ok (.ireturn, 1) := by decide +kernel
theorem dX10_mayTake_0 : decode cX10_mayTake 0 = .ok (.iload_n 0, 1) := by decide +kernel
theorem dX10_mayTake_1 : decode cX10_mayTake 1 = .ok (.iconst (-1), 1) := by decide +kernel
theorem dX10_mayTake_2 : decode cX10_mayTake 2 = .ok (.if_icmp .eq 15, 3) := by decide +kernel
theorem dX10_mayTake_5 : decode cX10_mayTake 5 = .ok (.iload_n 1, 1) := by decide +kernel
theorem dX10_mayTake_6 : decode cX10_mayTake 6 = .ok (.iload_n 0, 1) := by decide +kernel
theorem dX10_mayTake_7 : decode cX10_mayTake 7 = .ok (.ishr, 1) := by decide +kernel
theorem dX10_mayTake_8 : decode cX10_mayTake 8 = .ok (.iconst 1, 1) := by decide +kernel
theorem dX10_mayTake_9 : decode cX10_mayTake 9 = .ok (.iand, 1) := by decide +kernel
theorem dX10_mayTake_10 : decode cX10_mayTake 10 = .ok (.ifCond .ne 7, 3) := by decide +kernel
theorem dX10_mayTake_13 : decode cX10_mayTake 13 = .ok (.iconst 1, 1) := by decide +kernel
theorem dX10_mayTake_14 : decode cX10_mayTake 14 = .ok (.goto 4, 3) := by decide +kernel
theorem dX10_mayTake_17 : decode cX10_mayTake 17 = .ok (.iconst 0, 1) := by decide +kernel
theorem dX10_mayTake_18 : decode cX10_mayTake 18 = .ok (.ireturn, 1) := by decide +kernel
theorem dX10_pairs_0 : decode cX10_pairs 0 = .ok (.aload_n 0, 1) := by decide +kernel
theorem dX10_pairs_1 : decode cX10_pairs 1 = .ok (.getfield 277, 3) := by decide +kernel
theorem dX10_pairs_4 : decode cX10_pairs 4 = .ok (.iload_n 3, 1) := by decide +kernel
theorem dX10_pairs_5 : decode cX10_pairs 5 = .ok (.ishr, 1) := by decide +kernel
theorem dX10_pairs_6 : decode cX10_pairs 6 = .ok (.iconst 1, 1) := by decide +kernel
theorem dX10_pairs_7 : decode cX10_pairs 7 = .ok (.iand, 1) := by decide +kernel
theorem dX10_pairs_8 : decode cX10_pairs 8 = .ok (.iconst 1, 1) := by decide +kernel
theorem dX10_pairs_9 : decode cX10_pairs 9 = .ok (.if_icmp .ne 5, 3) := by decide +kernel
theorem dX10_pairs_12 : decode cX10_pairs 12 = .ok (.iconst 0, 1) := by decide +kernel
theorem dX10_pairs_13 : decode cX10_pairs 13 = .ok (.ireturn, 1) := by decide +kernel
theorem dX10_pairs_14 : decode cX10_pairs 14 = .ok (.iconst 0, 1) := by decide +kernel
theorem dX10_pairs_15 : decode cX10_pairs 15 = .ok (.istore 4, 2) := by decide +kernel
theorem dX10_pairs_17 : decode cX10_pairs 17 = .ok (.iload 4, 2) := by decide +kernel
theorem dX10_pairs_19 : decode cX10_pairs 19 = .ok (.bipush 64, 2) := by decide +kernel
theorem dX10_pairs_21 : decode cX10_pairs 21 = .ok (.if_icmp .ge 117, 3) := by decide +kernel
theorem dX10_pairs_24 : decode cX10_pairs 24 = .ok (.aload_n 0, 1) := by decide +kernel
theorem dX10_pairs_25 : decode cX10_pairs 25 = .ok (.getfield 76, 3) := by decide +kernel
theorem dX10_pairs_28 : decode cX10_pairs 28 = .ok (.iload 4, 2) := by decide +kernel
theorem dX10_pairs_30 : decode cX10_pairs 30 = .ok (.iaload, 1) := by decide +kernel
theorem dX10_pairs_31 : decode cX10_pairs 31 = .ok (.istore 5, 2) := by decide +kernel
theorem dX10_pairs_33 : decode cX10_pairs 33 = .ok (.lload_n 1, 1) := by decide +kernel
theorem dX10_pairs_34 : decode cX10_pairs 34 = .ok (.iload 4, 2) := by decide +kernel
theorem dX10_pairs_36 : decode cX10_pairs 36 = .ok (.invokestatic 191, 3) := by decide +kernel
theorem dX10_pairs_39 : decode cX10_pairs 39 = .ok (.ifCond .eq 93, 3) := by decide +kernel
theorem dX10_pairs_42 : decode cX10_pairs 42 = .ok (.aload_n 0, 1) := by decide +kernel
theorem dX10_pairs_43 : decode cX10_pairs 43 = .ok (.getfield 73, 3) := by decide +kernel
theorem dX10_pairs_46 : decode cX10_pairs 46 = .ok (.iload 4, 2) := by decide +kernel
theorem dX10_pairs_48 : decode cX10_pairs 48 = .ok (.iaload, 1) := by decide +kernel
theorem dX10_pairs_49 : decode cX10_pairs 49 = .ok (.iload_n 3, 1) := by decide +kernel
theorem dX10_pairs_50 : decode cX10_pairs 50 = .ok (.if_icmp .ne 82, 3) := by decide +kernel
theorem dX10_pairs_53 : decode cX10_pairs 53 = .ok (.iload 5, 2) := by decide +kernel
theorem dX10_pairs_55 : decode cX10_pairs 55 = .ok (.iconst (-1), 1) := by decide +kernel
theorem dX10_pairs_56 : decode cX10_pairs 56 = .ok (.if_icmp .eq 76, 3) := by decide +kernel
theorem dX10_pairs_59 : decode cX10_pairs 59 = .ok (.aload_n 0, 1) := by decide +kernel
theorem dX10_pairs_60 : decode cX10_pairs 60 = .ok (.getfield 277, 3) := by decide +kernel
theorem dX10_pairs_63 : decode cX10_pairs 63 = .ok (.iload 5, 2) := by decide +kernel
theorem dX10_pairs_65 : decode cX10_pairs 65 = .ok (.ishr, 1) := by decide +kernel
theorem dX10_pairs_66 : decode cX10_pairs 66 = .ok (.iconst 1, 1) := by decide +kernel
theorem dX10_pairs_67 : decode cX10_pairs 67 = .ok (.iand, 1) := by decide +kernel
theorem dX10_pairs_68 : decode cX10_pairs 68 = .ok (.iconst 1, 1) := by decide +kernel
theorem dX10_pairs_69 : decode cX10_pairs 69 = .ok (.if_icmp .eq 63, 3) := by decide +kernel
theorem dX10_pairs_72 : decode cX10_pairs 72 = .ok (.aload_n 0, 1) := by decide +kernel
theorem dX10_pairs_73 : decode cX10_pairs 73 = .ok (.getfield 82, 3) := by decide +kernel
theorem dX10_pairs_76 : decode cX10_pairs 76 = .ok (.iload 5, 2) := by decide +kernel
theorem dX10_pairs_78 : decode cX10_pairs 78 = .ok (.baload, 1) := by decide +kernel
theorem dX10_pairs_79 : decode cX10_pairs 79 = .ok (.ifCond .eq 6, 3) := by decide +kernel
theorem dX10_pairs_82 : decode cX10_pairs 82 = .ok (.goto 50, 3) := by decide +kernel
theorem dX10_pairs_85 : decode cX10_pairs 85 = .ok (.aload_n 0, 1) := by decide +kernel
theorem dX10_pairs_86 : decode cX10_pairs 86 = .ok (.getfield 82, 3) := by decide +kernel
theorem dX10_pairs_89 : decode cX10_pairs 89 = .ok (.iload 5, 2) := by decide +kernel
theorem dX10_pairs_91 : decode cX10_pairs 91 = .ok (.iconst 1, 1) := by decide +kernel
theorem dX10_pairs_92 : decode cX10_pairs 92 = .ok (.bastore, 1) := by decide +kernel
theorem dX10_pairs_93 : decode cX10_pairs 93 = .ok (.aload_n 0, 1) := by decide +kernel
theorem dX10_pairs_94 : decode cX10_pairs 94 = .ok (.getfield 79, 3) := by decide +kernel
theorem dX10_pairs_97 : decode cX10_pairs 97 = .ok (.iload 5, 2) := by decide +kernel
theorem dX10_pairs_99 : decode cX10_pairs 99 = .ok (.iaload, 1) := by decide +kernel
theorem dX10_pairs_100 : decode cX10_pairs 100 = .ok (.iconst (-1), 1) := by decide +kernel
theorem dX10_pairs_101 : decode cX10_pairs 101 = .ok (.if_icmp .eq 21, 3) := by decide +kernel
theorem dX10_pairs_104 : decode cX10_pairs 104 = .ok (.aload_n 0, 1) := by decide +kernel
theorem dX10_pairs_105 : decode cX10_pairs 105 = .ok (.lload_n 1, 1) := by decide +kernel
theorem dX10_pairs_106 : decode cX10_pairs 106 = .ok (.aload_n 0, 1) := by decide +kernel
theorem dX10_pairs_107 : decode cX10_pairs 107 = .ok (.getfield 79, 3) := by decide +kernel
theorem dX10_pairs_110 : decode cX10_pairs 110 = .ok (.iload 5, 2) := by decide +kernel
theorem dX10_pairs_112 : decode cX10_pairs 112 = .ok (.iaload, 1) := by decide +kernel
theorem dX10_pairs_113 : decode cX10_pairs 113 = .ok (.invokevirtual 280, 3) := by decide +kernel
theorem dX10_pairs_116 : decode cX10_pairs 116 = .ok (.ifCond .ne 6, 3) := by decide +kernel
theorem dX10_pairs_119 : decode cX10_pairs 119 = .ok (.goto 13, 3) := by decide +kernel
theorem dX10_pairs_122 : decode cX10_pairs 122 = .ok (.aload_n 0, 1) := by decide +kernel
theorem dX10_pairs_123 : decode cX10_pairs 123 = .ok (.getfield 79, 3) := by decide +kernel
theorem dX10_pairs_126 : decode cX10_pairs 126 = .ok (.iload 5, 2) := by decide +kernel
theorem dX10_pairs_128 : decode cX10_pairs 128 = .ok (.iload_n 3, 1) := by decide +kernel
theorem dX10_pairs_129 : decode cX10_pairs 129 = .ok (.iastore, 1) := by decide +kernel
theorem dX10_pairs_130 : decode cX10_pairs 130 = .ok (.iconst 1, 1) := by decide +kernel
theorem dX10_pairs_131 : decode cX10_pairs 131 = .ok (.ireturn, 1) := by decide +kernel
theorem dX10_pairs_132 : decode cX10_pairs 132 = .ok (.iinc 4 1, 3) := by decide +kernel
theorem dX10_pairs_135 : decode cX10_pairs 135 = .ok (.goto (-118), 3) := by decide +kernel
theorem dX10_pairs_138 : decode cX10_pairs 138 = .ok (.iconst 0, 1) := by decide +kernel
theorem dX10_pairs_139 : decode cX10_pairs 139 = .ok (.ireturn, 1) := by decide +kernel
theorem dX10_linesFor_0 : decode cX10_linesFor 0 = .ok (.aload_n 0, 1) := by decide +kernel
theorem dX10_linesFor_1 : decode cX10_linesFor 1 = .ok (.lload_n 1, 1) := by decide +kernel
theorem dX10_linesFor_2 : decode cX10_linesFor 2 = .ok (.iconst 0, 1) := by decide +kernel
theorem dX10_linesFor_3 : decode cX10_linesFor 3 = .ok (.iconst 0, 1) := by decide +kernel
theorem dX10_linesFor_4 : decode cX10_linesFor 4 = .ok (.invokevirtual 283, 3) := by decide +kernel
theorem dX10_linesFor_7 : decode cX10_linesFor 7 = .ok (.istore_n 3, 1) := by decide +kernel
theorem dX10_linesFor_8 : decode cX10_linesFor 8 = .ok (.iconst 0, 1) := by decide +kernel
theorem dX10_linesFor_9 : decode cX10_linesFor 9 = .ok (.istore 4, 2) := by decide +kernel
theorem dX10_linesFor_11 : decode cX10_linesFor 11 = .ok (.iconst 0, 1) := by decide +kernel
theorem dX10_linesFor_12 : decode cX10_linesFor 12 = .ok (.istore 5, 2) := by decide +kernel
theorem dX10_linesFor_14 : decode cX10_linesFor 14 = .ok (.bipush 31, 2) := by decide +kernel
theorem dX10_linesFor_16 : decode cX10_linesFor 16 = .ok (.istore 6, 2) := by decide +kernel
theorem dX10_linesFor_18 : decode cX10_linesFor 18 = .ok (.iload 6, 2) := by decide +kernel
theorem dX10_linesFor_20 : decode cX10_linesFor 20 = .ok (.ifCond .lt 61, 3) := by decide +kernel
theorem dX10_linesFor_23 : decode cX10_linesFor 23 = .ok (.aload_n 0, 1) := by decide +kernel
theorem dX10_linesFor_24 : decode cX10_linesFor 24 = .ok (.lload_n 1, 1) := by decide +kernel
theorem dX10_linesFor_25 : decode cX10_linesFor 25 = .ok (.iload 4, 2) := by decide +kernel
theorem dX10_linesFor_27 : decode cX10_linesFor 27 = .ok (.iload 5, 2) := by decide +kernel
theorem dX10_linesFor_29 : decode cX10_linesFor 29 = .ok (.iconst 1, 1) := by decide +kernel
theorem dX10_linesFor_30 : decode cX10_linesFor 30 = .ok (.iload 6, 2) := by decide +kernel
theorem dX10_linesFor_32 : decode cX10_linesFor 32 = .ok (.ishl, 1) := by decide +kernel
theorem dX10_linesFor_33 : decode cX10_linesFor 33 = .ok (.ior, 1) := by decide +kernel
theorem dX10_linesFor_34 : decode cX10_linesFor 34 = .ok (.invokevirtual 283, 3) := by decide +kernel
theorem dX10_linesFor_37 : decode cX10_linesFor 37 = .ok (.istore 7, 2) := by decide +kernel
theorem dX10_linesFor_39 : decode cX10_linesFor 39 = .ok (.iload 7, 2) := by decide +kernel
theorem dX10_linesFor_41 : decode cX10_linesFor 41 = .ok (.iconst (-1), 1) := by decide +kernel
theorem dX10_linesFor_42 : decode cX10_linesFor 42 = .ok (.if_icmp .eq 21, 3) := by decide +kernel
theorem dX10_linesFor_45 : decode cX10_linesFor 45 = .ok (.iload 7, 2) := by decide +kernel
theorem dX10_linesFor_47 : decode cX10_linesFor 47 = .ok (.iload_n 3, 1) := by decide +kernel
theorem dX10_linesFor_48 : decode cX10_linesFor 48 = .ok (.if_icmp .ne 15, 3) := by decide +kernel
theorem dX10_linesFor_51 : decode cX10_linesFor 51 = .ok (.iload 5, 2) := by decide +kernel
theorem dX10_linesFor_53 : decode cX10_linesFor 53 = .ok (.iconst 1, 1) := by decide +kernel
theorem dX10_linesFor_54 : decode cX10_linesFor 54 = .ok (.iload 6, 2) := by decide +kernel
theorem dX10_linesFor_56 : decode cX10_linesFor 56 = .ok (.ishl, 1) := by decide +kernel
theorem dX10_linesFor_57 : decode cX10_linesFor 57 = .ok (.ior, 1) := by decide +kernel
theorem dX10_linesFor_58 : decode cX10_linesFor 58 = .ok (.istore 5, 2) := by decide +kernel
theorem dX10_linesFor_60 : decode cX10_linesFor 60 = .ok (.goto 15, 3) := by decide +kernel
theorem dX10_linesFor_63 : decode cX10_linesFor 63 = .ok (.iload 4, 2) := by decide +kernel
theorem dX10_linesFor_65 : decode cX10_linesFor 65 = .ok (.iconst 1, 1) := by decide +kernel
theorem dX10_linesFor_66 : decode cX10_linesFor 66 = .ok (.iload 6, 2) := by decide +kernel
theorem dX10_linesFor_68 : decode cX10_linesFor 68 = .ok (.ishl, 1) := by decide +kernel
theorem dX10_linesFor_69 : decode cX10_linesFor 69 = .ok (.ior, 1) := by decide +kernel
theorem dX10_linesFor_70 : decode cX10_linesFor 70 = .ok (.istore 4, 2) := by decide +kernel
theorem dX10_linesFor_72 : decode cX10_linesFor 72 = .ok (.iinc 3 (-1), 3) := by decide +kernel
theorem dX10_linesFor_75 : decode cX10_linesFor 75 = .ok (.iinc 6 (-1), 3) := by decide +kernel
theorem dX10_linesFor_78 : decode cX10_linesFor 78 = .ok (.goto (-60), 3) := by decide +kernel
theorem dX10_linesFor_81 : decode cX10_linesFor 81 = .ok (.iload 4, 2) := by decide +kernel
theorem dX10_linesFor_83 : decode cX10_linesFor 83 = .ok (.ireturn, 1) := by decide +kernel
theorem dX10_bites_0 : decode cX10_bites 0 = .ok (.aload_n 0, 1) := by decide +kernel
theorem dX10_bites_1 : decode cX10_bites 1 = .ok (.iconst 0, 1) := by decide +kernel
theorem dX10_bites_2 : decode cX10_bites 2 = .ok (.putfield 112, 3) := by decide +kernel
theorem dX10_bites_5 : decode cX10_bites 5 = .ok (.aload_n 0, 1) := by decide +kernel
theorem dX10_bites_6 : decode cX10_bites 6 = .ok (.aload_n 0, 1) := by decide +kernel
theorem dX10_bites_7 : decode cX10_bites 7 = .ok (.iload_n 1, 1) := by decide +kernel
theorem dX10_bites_8 : decode cX10_bites 8 = .ok (.invokevirtual 240, 3) := by decide +kernel
theorem dX10_bites_11 : decode cX10_bites 11 = .ok (.ifCond .ne 7, 3) := by decide +kernel
theorem dX10_bites_14 : decode cX10_bites 14 = .ok (.iconst 1, 1) := by decide +kernel
theorem dX10_bites_15 : decode cX10_bites 15 = .ok (.goto 4, 3) := by decide +kernel
theorem dX10_bites_18 : decode cX10_bites 18 = .ok (.iconst 0, 1) := by decide +kernel
theorem dX10_bites_19 : decode cX10_bites 19 = .ok (.iconst 1, 1) := by decide +kernel
theorem dX10_bites_20 : decode cX10_bites 20 = .ok (.invokevirtual 197, 3) := by decide +kernel
theorem dX10_bites_23 : decode cX10_bites 23 = .ok (.ifCond .ne 25, 3) := by decide +kernel
theorem dX10_bites_26 : decode cX10_bites 26 = .ok (.aload_n 0, 1) := by decide +kernel
theorem dX10_bites_27 : decode cX10_bites 27 = .ok (.iload_n 2, 1) := by decide +kernel
theorem dX10_bites_28 : decode cX10_bites 28 = .ok (.iconst 0, 1) := by decide +kernel
theorem dX10_bites_29 : decode cX10_bites 29 = .ok (.iconst 1, 1) := by decide +kernel
theorem dX10_bites_30 : decode cX10_bites 30 = .ok (.invokestatic 146, 3) := by decide +kernel
theorem dX10_bites_33 : decode cX10_bites 33 = .ok (.ifCond .ne 7, 3) := by decide +kernel
theorem dX10_bites_36 : decode cX10_bites 36 = .ok (.iconst 1, 1) := by decide +kernel
theorem dX10_bites_37 : decode cX10_bites 37 = .ok (.goto 4, 3) := by decide +kernel
theorem dX10_bites_40 : decode cX10_bites 40 = .ok (.iconst 0, 1) := by decide +kernel
theorem dX10_bites_41 : decode cX10_bites 41 = .ok (.iconst 2, 1) := by decide +kernel
theorem dX10_bites_42 : decode cX10_bites 42 = .ok (.invokevirtual 197, 3) := by decide +kernel
theorem dX10_bites_45 : decode cX10_bites 45 = .ok (.ifCond .eq 5, 3) := by decide +kernel
theorem dX10_bites_48 : decode cX10_bites 48 = .ok (.iconst 0, 1) := by decide +kernel
theorem dX10_bites_49 : decode cX10_bites 49 = .ok (.ireturn, 1) := by decide +kernel
theorem dX10_bites_50 : decode cX10_bites 50 = .ok (.aload_n 0, 1) := by decide +kernel
theorem dX10_bites_51 : decode cX10_bites 51 = .ok (.aload_n 0, 1) := by decide +kernel
theorem dX10_bites_52 : decode cX10_bites 52 = .ok (.getfield 27, 3) := by decide +kernel
theorem dX10_bites_55 : decode cX10_bites 55 = .ok (.iload_n 1, 1) := by decide +kernel
theorem dX10_bites_56 : decode cX10_bites 56 = .ok (.laload, 1) := by decide +kernel
theorem dX10_bites_57 : decode cX10_bites 57 = .ok (.invokevirtual 287, 3) := by decide +kernel
theorem dX10_bites_60 : decode cX10_bites 60 = .ok (.aload_n 0, 1) := by decide +kernel
theorem dX10_bites_61 : decode cX10_bites 61 = .ok (.aload_n 0, 1) := by decide +kernel
theorem dX10_bites_62 : decode cX10_bites 62 = .ok (.getfield 27, 3) := by decide +kernel
theorem dX10_bites_65 : decode cX10_bites 65 = .ok (.iload_n 1, 1) := by decide +kernel
theorem dX10_bites_66 : decode cX10_bites 66 = .ok (.laload, 1) := by decide +kernel
theorem dX10_bites_67 : decode cX10_bites 67 = .ok (.invokestatic 227, 3) := by decide +kernel
theorem dX10_bites_70 : decode cX10_bites 70 = .ok (.iconst 0, 1) := by decide +kernel
theorem dX10_bites_71 : decode cX10_bites 71 = .ok (.iconst 0, 1) := by decide +kernel
theorem dX10_bites_72 : decode cX10_bites 72 = .ok (.invokevirtual 283, 3) := by decide +kernel
theorem dX10_bites_75 : decode cX10_bites 75 = .ok (.ireturn, 1) := by decide +kernel
theorem dX10_lines_0 : decode cX10_lines 0 = .ok (.aload_n 0, 1) := by decide +kernel
theorem dX10_lines_1 : decode cX10_lines 1 = .ok (.iconst 0, 1) := by decide +kernel
theorem dX10_lines_2 : decode cX10_lines 2 = .ok (.putfield 112, 3) := by decide +kernel
theorem dX10_lines_5 : decode cX10_lines 5 = .ok (.aload_n 0, 1) := by decide +kernel
theorem dX10_lines_6 : decode cX10_lines 6 = .ok (.aload_n 0, 1) := by decide +kernel
theorem dX10_lines_7 : decode cX10_lines 7 = .ok (.iload_n 1, 1) := by decide +kernel
theorem dX10_lines_8 : decode cX10_lines 8 = .ok (.invokevirtual 240, 3) := by decide +kernel
theorem dX10_lines_11 : decode cX10_lines 11 = .ok (.ifCond .ne 7, 3) := by decide +kernel
theorem dX10_lines_14 : decode cX10_lines 14 = .ok (.iconst 1, 1) := by decide +kernel
theorem dX10_lines_15 : decode cX10_lines 15 = .ok (.goto 4, 3) := by decide +kernel
theorem dX10_lines_18 : decode cX10_lines 18 = .ok (.iconst 0, 1) := by decide +kernel
theorem dX10_lines_19 : decode cX10_lines 19 = .ok (.iconst 1, 1) := by decide +kernel
theorem dX10_lines_20 : decode cX10_lines 20 = .ok (.invokevirtual 197, 3) := by decide +kernel
theorem dX10_lines_23 : decode cX10_lines 23 = .ok (.ifCond .eq 5, 3) := by decide +kernel
theorem dX10_lines_26 : decode cX10_lines 26 = .ok (.lconst 0, 1) := by decide +kernel
theorem dX10_lines_27 : decode cX10_lines 27 = .ok (.lreturn, 1) := by decide +kernel
theorem dX10_lines_28 : decode cX10_lines 28 = .ok (.aload_n 0, 1) := by decide +kernel
theorem dX10_lines_29 : decode cX10_lines 29 = .ok (.aload_n 0, 1) := by decide +kernel
theorem dX10_lines_30 : decode cX10_lines 30 = .ok (.getfield 27, 3) := by decide +kernel
theorem dX10_lines_33 : decode cX10_lines 33 = .ok (.iload_n 1, 1) := by decide +kernel
theorem dX10_lines_34 : decode cX10_lines 34 = .ok (.laload, 1) := by decide +kernel
theorem dX10_lines_35 : decode cX10_lines 35 = .ok (.invokevirtual 287, 3) := by decide +kernel
theorem dX10_lines_38 : decode cX10_lines 38 = .ok (.aload_n 0, 1) := by decide +kernel
theorem dX10_lines_39 : decode cX10_lines 39 = .ok (.aload_n 0, 1) := by decide +kernel
theorem dX10_lines_40 : decode cX10_lines 40 = .ok (.getfield 27, 3) := by decide +kernel
theorem dX10_lines_43 : decode cX10_lines 43 = .ok (.iload_n 1, 1) := by decide +kernel
theorem dX10_lines_44 : decode cX10_lines 44 = .ok (.laload, 1) := by decide +kernel
theorem dX10_lines_45 : decode cX10_lines 45 = .ok (.invokestatic 227, 3) := by decide +kernel
theorem dX10_lines_48 : decode cX10_lines 48 = .ok (.invokevirtual 291, 3) := by decide +kernel
theorem dX10_lines_51 : decode cX10_lines 51 = .ok (.i2l, 1) := by decide +kernel
theorem dX10_lines_52 : decode cX10_lines 52 = .ok (.ldc2_w 294, 3) := by decide +kernel
theorem dX10_lines_55 : decode cX10_lines 55 = .ok (.land, 1) := by decide +kernel
theorem dX10_lines_56 : decode cX10_lines 56 = .ok (.lreturn, 1) := by decide +kernel
theorem dX10_begin_0 : decode cX10_begin 0 = .ok (.aload_n 0, 1) := by decide +kernel
theorem dX10_begin_1 : decode cX10_begin 1 = .ok (.iconst 0, 1) := by decide +kernel
theorem dX10_begin_2 : decode cX10_begin 2 = .ok (.putfield 112, 3) := by decide +kernel
theorem dX10_begin_5 : decode cX10_begin 5 = .ok (.aload_n 0, 1) := by decide +kernel
theorem dX10_begin_6 : decode cX10_begin 6 = .ok (.aload_n 0, 1) := by decide +kernel
theorem dX10_begin_7 : decode cX10_begin 7 = .ok (.iload_n 1, 1) := by decide +kernel
theorem dX10_begin_8 : decode cX10_begin 8 = .ok (.invokevirtual 240, 3) := by decide +kernel
theorem dX10_begin_11 : decode cX10_begin 11 = .ok (.ifCond .ne 7, 3) := by decide +kernel
theorem dX10_begin_14 : decode cX10_begin 14 = .ok (.iconst 1, 1) := by decide +kernel
theorem dX10_begin_15 : decode cX10_begin 15 = .ok (.goto 4, 3) := by decide +kernel
theorem dX10_begin_18 : decode cX10_begin 18 = .ok (.iconst 0, 1) := by decide +kernel
theorem dX10_begin_19 : decode cX10_begin 19 = .ok (.iconst 1, 1) := by decide +kernel
theorem dX10_begin_20 : decode cX10_begin 20 = .ok (.invokevirtual 197, 3) := by decide +kernel
theorem dX10_begin_23 : decode cX10_begin 23 = .ok (.ifCond .eq 4, 3) := by decide +kernel
theorem dX10_begin_26 : decode cX10_begin 26 = .ok (.return_, 1) := by decide +kernel
theorem dX10_begin_27 : decode cX10_begin 27 = .ok (.aload_n 0, 1) := by decide +kernel
theorem dX10_begin_28 : decode cX10_begin 28 = .ok (.iload_n 1, 1) := by decide +kernel
theorem dX10_begin_29 : decode cX10_begin 29 = .ok (.putfield 56, 3) := by decide +kernel
theorem dX10_begin_32 : decode cX10_begin 32 = .ok (.aload_n 0, 1) := by decide +kernel
theorem dX10_begin_33 : decode cX10_begin 33 = .ok (.ldc2_w 195, 3) := by decide +kernel
theorem dX10_begin_36 : decode cX10_begin 36 = .ok (.putfield 207, 3) := by decide +kernel
theorem dX10_begin_39 : decode cX10_begin 39 = .ok (.aload_n 0, 1) := by decide +kernel
theorem dX10_begin_40 : decode cX10_begin 40 = .ok (.iconst 0, 1) := by decide +kernel
theorem dX10_begin_41 : decode cX10_begin 41 = .ok (.putfield 211, 3) := by decide +kernel
theorem dX10_begin_44 : decode cX10_begin 44 = .ok (.return_, 1) := by decide +kernel
theorem dX10_blows_0 : decode cX10_blows 0 = .ok (.aload_n 0, 1) := by decide +kernel
theorem dX10_blows_1 : decode cX10_blows 1 = .ok (.getfield 50, 3) := by decide +kernel
theorem dX10_blows_4 : decode cX10_blows 4 = .ok (.iload_n 1, 1) := by decide +kernel
theorem dX10_blows_5 : decode cX10_blows 5 = .ok (.laload, 1) := by decide +kernel
theorem dX10_blows_6 : decode cX10_blows 6 = .ok (.invokestatic 237, 3) := by decide +kernel
theorem dX10_blows_9 : decode cX10_blows 9 = .ok (.aload_n 0, 1) := by decide +kernel
