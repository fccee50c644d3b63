theorem d_MD_in_0 : decode c_MD_in 0 = .ok (.iload_n 0, 1) := by decide +kernel
theorem d_MD_in_1 : decode c_MD_in 1 = .ok (.iload_n 1, 1) := by decide +kernel
theorem d_MD_in_2 : decode c_MD_in 2 = .ok (.if_icmp .lt 12, 3) := by decide +kernel
theorem d_MD_in_5 : decode c_MD_in 5 = .ok (.iload_n 0, 1) := by decide +kernel
theorem d_MD_in_6 : decode c_MD_in 6 = .ok (.iload_n 2, 1) := by decide +kernel
theorem d_MD_in_7 : decode c_MD_in 7 = .ok (.if_icmp .gt 7, 3) := by decide +kernel
theorem d_MD_in_10 : decode c_MD_in 10 = .ok (.iconst 1, 1) := by decide +kernel
theorem d_MD_in_11 : decode c_MD_in 11 = .ok (.goto 4, 3) := by decide +kernel
theorem d_MD_in_14 : decode c_MD_in 14 = .ok (.iconst 0, 1) := by decide +kernel
theorem d_MD_in_15 : decode c_MD_in 15 = .ok (.ireturn, 1) := by decide +kernel
theorem d_MD_feed_0 : decode c_MD_feed 0 = .ok (.aload_n 0, 1) := by decide +kernel
theorem d_MD_feed_1 : decode c_MD_feed 1 = .ok (.getfield 1, 3) := by decide +kernel
theorem d_MD_feed_4 : decode c_MD_feed 4 = .ok (.bipush 20, 2) := by decide +kernel
theorem d_MD_feed_6 : decode c_MD_feed 6 = .ok (.iadd, 1) := by decide +kernel
theorem d_MD_feed_7 : decode c_MD_feed 7 = .ok (.sipush 3000, 3) := by decide +kernel
theorem d_MD_feed_10 : decode c_MD_feed 10 = .ok (.if_icmp .le 5, 3) := by decide +kernel
theorem d_MD_feed_13 : decode c_MD_feed 13 = .ok (.iconst (-1), 1) := by decide +kernel
theorem d_MD_feed_14 : decode c_MD_feed 14 = .ok (.ireturn, 1) := by decide +kernel
theorem d_MD_feed_15 : decode c_MD_feed 15 = .ok (.aload_n 0, 1) := by decide +kernel
theorem d_MD_feed_16 : decode c_MD_feed 16 = .ok (.iload_n 1, 1) := by decide +kernel
theorem d_MD_feed_17 : decode c_MD_feed 17 = .ok (.invokevirtual 7, 3) := by decide +kernel
theorem d_MD_feed_20 : decode c_MD_feed 20 = .ok (.aload_n 0, 1) := by decide +kernel
theorem d_MD_feed_21 : decode c_MD_feed 21 = .ok (.iload_n 2, 1) := by decide +kernel
theorem d_MD_feed_22 : decode c_MD_feed 22 = .ok (.invokevirtual 7, 3) := by decide +kernel
theorem d_MD_feed_25 : decode c_MD_feed 25 = .ok (.aload_n 0, 1) := by decide +kernel
theorem d_MD_feed_26 : decode c_MD_feed 26 = .ok (.iload_n 3, 1) := by decide +kernel
theorem d_MD_feed_27 : decode c_MD_feed 27 = .ok (.invokevirtual 7, 3) := by decide +kernel
theorem d_MD_feed_30 : decode c_MD_feed 30 = .ok (.aload_n 0, 1) := by decide +kernel
theorem d_MD_feed_31 : decode c_MD_feed 31 = .ok (.iload 4, 2) := by decide +kernel
theorem d_MD_feed_33 : decode c_MD_feed 33 = .ok (.invokevirtual 7, 3) := by decide +kernel
theorem d_MD_feed_36 : decode c_MD_feed 36 = .ok (.aload_n 0, 1) := by decide +kernel
theorem d_MD_feed_37 : decode c_MD_feed 37 = .ok (.iload 5, 2) := by decide +kernel
theorem d_MD_feed_39 : decode c_MD_feed 39 = .ok (.invokevirtual 7, 3) := by decide +kernel
theorem d_MD_feed_42 : decode c_MD_feed 42 = .ok (.aload_n 0, 1) := by decide +kernel
theorem d_MD_feed_43 : decode c_MD_feed 43 = .ok (.getfield 1, 3) := by decide +kernel
theorem d_MD_feed_46 : decode c_MD_feed 46 = .ok (.ireturn, 1) := by decide +kernel
theorem d_MD_word1_0 : decode c_MD_word1 0 = .ok (.bipush 24, 2) := by decide +kernel
theorem d_MD_word1_2 : decode c_MD_word1 2 = .ok (.istore_n 2, 1) := by decide +kernel
theorem d_MD_word1_3 : decode c_MD_word1 3 = .ok (.iload_n 2, 1) := by decide +kernel
theorem d_MD_word1_4 : decode c_MD_word1 4 = .ok (.ifCond .lt 32, 3) := by decide +kernel
theorem d_MD_word1_7 : decode c_MD_word1 7 = .ok (.aload_n 0, 1) := by decide +kernel
theorem d_MD_word1_8 : decode c_MD_word1 8 = .ok (.getfield 11, 3) := by decide +kernel
theorem d_MD_word1_11 : decode c_MD_word1 11 = .ok (.aload_n 0, 1) := by decide +kernel
theorem d_MD_word1_12 : decode c_MD_word1 12 = .ok (.getfield 1, 3) := by decide +kernel
theorem d_MD_word1_15 : decode c_MD_word1 15 = .ok (.iload_n 1, 1) := by decide +kernel
theorem d_MD_word1_16 : decode c_MD_word1 16 = .ok (.iload_n 2, 1) := by decide +kernel
theorem d_MD_word1_17 : decode c_MD_word1 17 = .ok (.ishr, 1) := by decide +kernel
theorem d_MD_word1_18 : decode c_MD_word1 18 = .ok (.i2b, 1) := by decide +kernel
theorem d_MD_word1_19 : decode c_MD_word1 19 = .ok (.bastore, 1) := by decide +kernel
theorem d_MD_word1_20 : decode c_MD_word1 20 = .ok (.aload_n 0, 1) := by decide +kernel
theorem d_MD_word1_21 : decode c_MD_word1 21 = .ok (.dup, 1) := by decide +kernel
theorem d_MD_word1_22 : decode c_MD_word1 22 = .ok (.getfield 1, 3) := by decide +kernel
theorem d_MD_word1_25 : decode c_MD_word1 25 = .ok (.iconst 1, 1) := by decide +kernel
theorem d_MD_word1_26 : decode c_MD_word1 26 = .ok (.iadd, 1) := by decide +kernel
theorem d_MD_word1_27 : decode c_MD_word1 27 = .ok (.putfield 1, 3) := by decide +kernel
theorem d_MD_word1_30 : decode c_MD_word1 30 = .ok (.iinc 2 (-8), 3) := by decide +kernel
theorem d_MD_word1_33 : decode c_MD_word1 33 = .ok (.goto (-30), 3) := by decide +kernel
theorem d_MD_word1_36 : decode c_MD_word1 36 = .ok (.return_, 1) := by decide +kernel
theorem d_MD_init_0 : decode c_MD_init 0 = .ok (.aload_n 0, 1) := by decide +kernel
theorem d_MD_init_1 : decode c_MD_init 1 = .ok (.invokespecial 15, 3) := by decide +kernel
theorem d_MD_init_4 : decode c_MD_init 4 = .ok (.aload_n 0, 1) := by decide +kernel
theorem d_MD_init_5 : decode c_MD_init 5 = .ok (.sipush 3000, 3) := by decide +kernel
theorem d_MD_init_8 : decode c_MD_init 8 = .ok (.newarray .byte, 2) := by decide +kernel
theorem d_MD_init_10 : decode c_MD_init 10 = .ok (.putfield 11, 3) := by decide +kernel
theorem d_MD_init_13 : decode c_MD_init 13 = .ok (.aload_n 0, 1) := by decide +kernel
theorem d_MD_init_14 : decode c_MD_init 14 = .ok (.iconst 3, 1) := by decide +kernel
theorem d_MD_init_15 : decode c_MD_init 15 = .ok (.newarray .boolean, 2) := by decide +kernel
theorem d_MD_init_17 : decode c_MD_init 17 = .ok (.putfield 21, 3) := by decide +kernel
theorem d_MD_init_20 : decode c_MD_init 20 = .ok (.aload_n 0, 1) := by decide +kernel
theorem d_MD_init_21 : decode c_MD_init 21 = .ok (.iconst 3, 1) := by decide +kernel
theorem d_MD_init_22 : decode c_MD_init 22 = .ok (.newarray .int, 2) := by decide +kernel
theorem d_MD_init_24 : decode c_MD_init 24 = .ok (.putfield 25, 3) := by decide +kernel
theorem d_MD_init_27 : decode c_MD_init 27 = .ok (.aload_n 0, 1) := by decide +kernel
theorem d_MD_init_28 : decode c_MD_init 28 = .ok (.iconst 3, 1) := by decide +kernel
theorem d_MD_init_29 : decode c_MD_init 29 = .ok (.newarray .int, 2) := by decide +kernel
theorem d_MD_init_31 : decode c_MD_init 31 = .ok (.putfield 29, 3) := by decide +kernel
theorem d_MD_init_34 : decode c_MD_init 34 = .ok (.aload_n 0, 1) := by decide +kernel
theorem d_MD_init_35 : decode c_MD_init 35 = .ok (.sipush 3072, 3) := by decide +kernel
theorem d_MD_init_38 : decode c_MD_init 38 = .ok (.newarray .int, 2) := by decide +kernel
theorem d_MD_init_40 : decode c_MD_init 40 = .ok (.putfield 32, 3) := by decide +kernel
theorem d_MD_init_43 : decode c_MD_init 43 = .ok (.aload_n 0, 1) := by decide +kernel
theorem d_MD_init_44 : decode c_MD_init 44 = .ok (.bipush 24, 2) := by decide +kernel
theorem d_MD_init_46 : decode c_MD_init 46 = .ok (.newarray .int, 2) := by decide +kernel
theorem d_MD_init_48 : decode c_MD_init 48 = .ok (.putfield 35, 3) := by decide +kernel
theorem d_MD_init_51 : decode c_MD_init 51 = .ok (.aload_n 0, 1) := by decide +kernel
theorem d_MD_init_52 : decode c_MD_init 52 = .ok (.iconst 3, 1) := by decide +kernel
theorem d_MD_init_53 : decode c_MD_init 53 = .ok (.newarray .int, 2) := by decide +kernel
theorem d_MD_init_55 : decode c_MD_init 55 = .ok (.putfield 38, 3) := by decide +kernel
theorem d_MD_init_58 : decode c_MD_init 58 = .ok (.aload_n 0, 1) := by decide +kernel
theorem d_MD_init_59 : decode c_MD_init 59 = .ok (.iconst 3, 1) := by decide +kernel
theorem d_MD_init_60 : decode c_MD_init 60 = .ok (.newarray .int, 2) := by decide +kernel
theorem d_MD_init_62 : decode c_MD_init 62 = .ok (.putfield 41, 3) := by decide +kernel
theorem d_MD_init_65 : decode c_MD_init 65 = .ok (.aload_n 0, 1) := by decide +kernel
theorem d_MD_init_66 : decode c_MD_init 66 = .ok (.iconst 3, 1) := by decide +kernel
theorem d_MD_init_67 : decode c_MD_init 67 = .ok (.newarray .int, 2) := by decide +kernel
theorem d_MD_init_69 : decode c_MD_init 69 = .ok (.putfield 44, 3) := by decide +kernel
theorem d_MD_init_72 : decode c_MD_init 72 = .ok (.aload_n 0, 1) := by decide +kernel
theorem d_MD_init_73 : decode c_MD_init 73 = .ok (.iconst 3, 1) := by decide +kernel
theorem d_MD_init_74 : decode c_MD_init 74 = .ok (.newarray .int, 2) := by decide +kernel
theorem d_MD_init_76 : decode c_MD_init 76 = .ok (.putfield 47, 3) := by decide +kernel
theorem d_MD_init_79 : decode c_MD_init 79 = .ok (.aload_n 0, 1) := by decide +kernel
theorem d_MD_init_80 : decode c_MD_init 80 = .ok (.iconst 3, 1) := by decide +kernel
theorem d_MD_init_81 : decode c_MD_init 81 = .ok (.newarray .int, 2) := by decide +kernel
theorem d_MD_init_83 : decode c_MD_init 83 = .ok (.putfield 50, 3) := by decide +kernel
theorem d_MD_init_86 : decode c_MD_init 86 = .ok (.aload_n 0, 1) := by decide +kernel
theorem d_MD_init_87 : decode c_MD_init 87 = .ok (.iconst 3, 1) := by decide +kernel
theorem d_MD_init_88 : decode c_MD_init 88 = .ok (.newarray .boolean, 2) := by decide +kernel
theorem d_MD_init_90 : decode c_MD_init 90 = .ok (.putfield 53, 3) := by decide +kernel
theorem d_MD_init_93 : decode c_MD_init 93 = .ok (.aload_n 0, 1) := by decide +kernel
theorem d_MD_init_94 : decode c_MD_init 94 = .ok (.iconst 3, 1) := by decide +kernel
theorem d_MD_init_95 : decode c_MD_init 95 = .ok (.newarray .boolean, 2) := by decide +kernel
theorem d_MD_init_97 : decode c_MD_init 97 = .ok (.putfield 56, 3) := by decide +kernel
theorem d_MD_init_100 : decode c_MD_init 100 = .ok (.aload_n 0, 1) := by decide +kernel
theorem d_MD_init_101 : decode c_MD_init 101 = .ok (.iconst 3, 1) := by decide +kernel
theorem d_MD_init_102 : decode c_MD_init 102 = .ok (.newarray .int, 2) := by decide +kernel
theorem d_MD_init_104 : decode c_MD_init 104 = .ok (.putfield 59, 3) := by decide +kernel
theorem d_MD_init_107 : decode c_MD_init 107 = .ok (.aload_n 0, 1) := by decide +kernel
theorem d_MD_init_108 : decode c_MD_init 108 = .ok (.iconst 3, 1) := by decide +kernel
theorem d_MD_init_109 : decode c_MD_init 109 = .ok (.newarray .int, 2) := by decide +kernel
theorem d_MD_init_111 : decode c_MD_init 111 = .ok (.putfield 62, 3) := by decide +kernel
theorem d_MD_init_114 : decode c_MD_init 114 = .ok (.aload_n 0, 1) := by decide +kernel
theorem d_MD_init_115 : decode c_MD_init 115 = .ok (.sipush 1500, 3) := by decide +kernel
theorem d_MD_init_118 : decode c_MD_init 118 = .ok (.newarray .int, 2) := by decide +kernel
theorem d_MD_init_120 : decode c_MD_init 120 = .ok (.putfield 65, 3) := by decide +kernel
theorem d_MD_init_123 : decode c_MD_init 123 = .ok (.aload_n 0, 1) := by decide +kernel
theorem d_MD_init_124 : decode c_MD_init 124 = .ok (.iconst 3, 1) := by decide +kernel
theorem d_MD_init_125 : decode c_MD_init 125 = .ok (.newarray .int, 2) := by decide +kernel
theorem d_MD_init_127 : decode c_MD_init 127 = .ok (.putfield 68, 3) := by decide +kernel
theorem d_MD_init_130 : decode c_MD_init 130 = .ok (.aload_n 0, 1) := by decide +kernel
theorem d_MD_init_131 : decode c_MD_init 131 = .ok (.sipush 300, 3) := by decide +kernel
theorem d_MD_init_134 : decode c_MD_init 134 = .ok (.newarray .int, 2) := by decide +kernel
theorem d_MD_init_136 : decode c_MD_init 136 = .ok (.putfield 71, 3) := by decide +kernel
theorem d_MD_init_139 : decode c_MD_init 139 = .ok (.aload_n 0, 1) := by decide +kernel
theorem d_MD_init_140 : decode c_MD_init 140 = .ok (.sipush 384, 3) := by decide +kernel
theorem d_MD_init_143 : decode c_MD_init 143 = .ok (.newarray .int, 2) := by decide +kernel
theorem d_MD_init_145 : decode c_MD_init 145 = .ok (.putfield 74, 3) := by decide +kernel
theorem d_MD_init_148 : decode c_MD_init 148 = .ok (.aload_n 0, 1) := by decide +kernel
theorem d_MD_init_149 : decode c_MD_init 149 = .ok (.bipush 25, 2) := by decide +kernel
theorem d_MD_init_151 : decode c_MD_init 151 = .ok (.newarray .int, 2) := by decide +kernel
theorem d_MD_init_153 : decode c_MD_init 153 = .ok (.putfield 77, 3) := by decide +kernel
theorem d_MD_init_156 : decode c_MD_init 156 = .ok (.aload_n 0, 1) := by decide +kernel
theorem d_MD_init_157 : decode c_MD_init 157 = .ok (.bipush 100, 2) := by decide +kernel
theorem d_MD_init_159 : decode c_MD_init 159 = .ok (.newarray .int, 2) := by decide +kernel
theorem d_MD_init_161 : decode c_MD_init 161 = .ok (.putfield 80, 3) := by decide +kernel
theorem d_MD_init_164 : decode c_MD_init 164 = .ok (.aload_n 0, 1) := by decide +kernel
theorem d_MD_init_165 : decode c_MD_init 165 = .ok (.bipush 100, 2) := by decide +kernel
theorem d_MD_init_167 : decode c_MD_init 167 = .ok (.newarray .int, 2) := by decide +kernel
theorem d_MD_init_169 : decode c_MD_init 169 = .ok (.putfield 83, 3) := by decide +kernel
theorem d_MD_init_172 : decode c_MD_init 172 = .ok (.aload_n 0, 1) := by decide +kernel
theorem d_MD_init_173 : decode c_MD_init 173 = .ok (.bipush 100, 2) := by decide +kernel
theorem d_MD_init_175 : decode c_MD_init 175 = .ok (.newarray .int, 2) := by decide +kernel
theorem d_MD_init_177 : decode c_MD_init 177 = .ok (.putfield 86, 3) := by decide +kernel
theorem d_MD_init_180 : decode c_MD_init 180 = .ok (.aload_n 0, 1) := by decide +kernel
theorem d_MD_init_181 : decode c_MD_init 181 = .ok (.sipush 1024, 3) := by decide +kernel
theorem d_MD_init_184 : decode c_MD_init 184 = .ok (.newarray .int, 2) := by decide +kernel
theorem d_MD_init_186 : decode c_MD_init 186 = .ok (.putfield 89, 3) := by decide +kernel
theorem d_MD_init_189 : decode c_MD_init 189 = .ok (.iconst 0, 1) := by decide +kernel
theorem d_MD_init_190 : decode c_MD_init 190 = .ok (.istore_n 1, 1) := by decide +kernel
theorem d_MD_init_191 : decode c_MD_init 191 = .ok (.iload_n 1, 1) := by decide +kernel
theorem d_MD_init_192 : decode c_MD_init 192 = .ok (.bipush 25, 2) := by decide +kernel
theorem d_MD_init_194 : decode c_MD_init 194 = .ok (.if_icmp .ge 119, 3) := by decide +kernel
theorem d_MD_init_197 : decode c_MD_init 197 = .ok (.aload_n 0, 1) := by decide +kernel
theorem d_MD_init_198 : decode c_MD_init 198 = .ok (.getfield 77, 3) := by decide +kernel
theorem d_MD_init_201 : decode c_MD_init 201 = .ok (.iload_n 1, 1) := by decide +kernel
theorem d_MD_init_202 : decode c_MD_init 202 = .ok (.iload_n 1, 1) := by decide +kernel
theorem d_MD_init_203 : decode c_MD_init 203 = .ok (.ifCond .ne 7, 3) := by decide +kernel
theorem d_MD_init_206 : decode c_MD_init 206 = .ok (.iconst 0, 1) := by decide +kernel
theorem d_MD_init_207 : decode c_MD_init 207 = .ok (.goto 99, 3) := by decide +kernel
theorem d_MD_init_210 : decode c_MD_init 210 = .ok (.iload_n 1, 1) := by decide +kernel
theorem d_MD_init_211 : decode c_MD_init 211 = .ok (.iconst 1, 1) := by decide +kernel
theorem d_MD_init_212 : decode c_MD_init 212 = .ok (.if_icmp .eq 31, 3) := by decide +kernel
theorem d_MD_init_215 : decode c_MD_init 215 = .ok (.iload_n 1, 1) := by decide +kernel
theorem d_MD_init_216 : decode c_MD_init 216 = .ok (.iconst 2, 1) := by decide +kernel
theorem d_MD_init_217 : decode c_MD_init 217 = .ok (.if_icmp .eq 26, 3) := by decide +kernel
theorem d_MD_init_220 : decode c_MD_init 220 = .ok (.iload_n 1, 1) := by decide +kernel
theorem d_MD_init_221 : decode c_MD_init 221 = .ok (.iconst 3, 1) := by decide +kernel
theorem d_MD_init_222 : decode c_MD_init 222 = .ok (.if_icmp .eq 21, 3) := by decide +kernel
theorem d_MD_init_225 : decode c_MD_init 225 = .ok (.iload_n 1, 1) := by decide +kernel
theorem d_MD_init_226 : decode c_MD_init 226 = .ok (.bipush 11, 2) := by decide +kernel
theorem d_MD_init_228 : decode c_MD_init 228 = .ok (.if_icmp .eq 15, 3) := by decide +kernel
theorem d_MD_init_231 : decode c_MD_init 231 = .ok (.iload_n 1, 1) := by decide +kernel
theorem d_MD_init_232 : decode c_MD_init 232 = .ok (.bipush 13, 2) := by decide +kernel
theorem d_MD_init_234 : decode c_MD_init 234 = .ok (.if_icmp .eq 9, 3) := by decide +kernel
theorem d_MD_init_237 : decode c_MD_init 237 = .ok (.iload_n 1, 1) := by decide +kernel
theorem d_MD_init_238 : decode c_MD_init 238 = .ok (.bipush 15, 2) := by decide +kernel
theorem d_MD_init_240 : decode c_MD_init 240 = .ok (.if_icmp .ne 7, 3) := by decide +kernel
theorem d_MD_init_243 : decode c_MD_init 243 = .ok (.iconst 5, 1) := by decide +kernel
theorem d_MD_init_244 : decode c_MD_init 244 = .ok (.goto 62, 3) := by decide +kernel
theorem d_MD_init_247 : decode c_MD_init 247 = .ok (.iload_n 1, 1) := by decide +kernel
theorem d_MD_init_248 : decode c_MD_init 248 = .ok (.iconst 4, 1) := by decide +kernel
theorem d_MD_init_249 : decode c_MD_init 249 = .ok (.if_icmp .eq 14, 3) := by decide +kernel
theorem d_MD_init_252 : decode c_MD_init 252 = .ok (.iload_n 1, 1) := by decide +kernel
theorem d_MD_init_253 : decode c_MD_init 253 = .ok (.iconst 5, 1) := by decide +kernel
theorem d_MD_init_254 : decode c_MD_init 254 = .ok (.if_icmp .eq 9, 3) := by decide +kernel
theorem d_MD_init_257 : decode c_MD_init 257 = .ok (.iload_n 1, 1) := by decide +kernel
theorem d_MD_init_258 : decode c_MD_init 258 = .ok (.bipush 22, 2) := by decide +kernel
theorem d_MD_init_260 : decode c_MD_init 260 = .ok (.if_icmp .le 8, 3) := by decide +kernel
theorem d_MD_init_263 : decode c_MD_init 263 = .ok (.bipush 7, 2) := by decide +kernel
theorem d_MD_init_265 : decode c_MD_init 265 = .ok (.goto 41, 3) := by decide +kernel
theorem d_MD_init_268 : decode c_MD_init 268 = .ok (.iload_n 1, 1) := by decide +kernel
theorem d_MD_init_269 : decode c_MD_init 269 = .ok (.iconst 5, 1) := by decide +kernel
theorem d_MD_init_270 : decode c_MD_init 270 = .ok (.if_icmp .le 13, 3) := by decide +kernel
theorem d_MD_init_273 : decode c_MD_init 273 = .ok (.iload_n 1, 1) := by decide +kernel
theorem d_MD_init_274 : decode c_MD_init 274 = .ok (.bipush 11, 2) := by decide +kernel
theorem d_MD_init_276 : decode c_MD_init 276 = .ok (.if_icmp .ge 7, 3) := by decide +kernel
theorem d_MD_init_279 : decode c_MD_init 279 = .ok (.iconst 3, 1) := by decide +kernel
theorem d_MD_init_280 : decode c_MD_init 280 = .ok (.goto 26, 3) := by decide +kernel
theorem d_MD_init_283 : decode c_MD_init 283 = .ok (.iload_n 1, 1) := by decide +kernel
theorem d_MD_init_284 : decode c_MD_init 284 = .ok (.bipush 12, 2) := by decide +kernel
theorem d_MD_init_286 : decode c_MD_init 286 = .ok (.if_icmp .eq 15, 3) := by decide +kernel
theorem d_MD_init_289 : decode c_MD_init 289 = .ok (.iload_n 1, 1) := by decide +kernel
theorem d_MD_init_290 : decode c_MD_init 290 = .ok (.bipush 15, 2) := by decide +kernel
theorem d_MD_init_292 : decode c_MD_init 292 = .ok (.if_icmp .le 13, 3) := by decide +kernel
theorem d_MD_init_295 : decode c_MD_init 295 = .ok (.iload_n 1, 1) := by decide +kernel
theorem d_MD_init_296 : decode c_MD_init 296 = .ok (.bipush 19, 2) := by decide +kernel
theorem d_MD_init_298 : decode c_MD_init 298 = .ok (.if_icmp .ge 7, 3) := by decide +kernel
theorem d_MD_init_301 : decode c_MD_init 301 = .ok (.iconst 4, 1) := by decide +kernel
theorem d_MD_init_302 : decode c_MD_init 302 = .ok (.goto 4, 3) := by decide +kernel
theorem d_MD_init_305 : decode c_MD_init 305 = .ok (.iconst 1, 1) := by decide +kernel
theorem d_MD_init_306 : decode c_MD_init 306 = .ok (.iastore, 1) := by decide +kernel
theorem d_MD_init_307 : decode c_MD_init 307 = .ok (.iinc 1 1, 3) := by decide +kernel
theorem d_MD_init_310 : decode c_MD_init 310 = .ok (.goto (-119), 3) := by decide +kernel
theorem d_MD_init_313 : decode c_MD_init 313 = .ok (.return_, 1) := by decide +kernel
theorem d_MD_byteAt_0 : decode c_MD_byteAt 0 = .ok (.iload_n 1, 1) := by decide +kernel
theorem d_MD_byteAt_1 : decode c_MD_byteAt 1 = .ok (.aload_n 0, 1) := by decide +kernel
theorem d_MD_byteAt_2 : decode c_MD_byteAt 2 = .ok (.getfield 92, 3) := by decide +kernel
theorem d_MD_byteAt_5 : decode c_MD_byteAt 5 = .ok (.if_icmp .ge 16, 3) := by decide +kernel
theorem d_MD_byteAt_8 : decode c_MD_byteAt 8 = .ok (.aload_n 0, 1) := by decide +kernel
theorem d_MD_byteAt_9 : decode c_MD_byteAt 9 = .ok (.getfield 11, 3) := by decide +kernel
theorem d_MD_byteAt_12 : decode c_MD_byteAt 12 = .ok (.iload_n 1, 1) := by decide +kernel
theorem d_MD_byteAt_13 : decode c_MD_byteAt 13 = .ok (.baload, 1) := by decide +kernel
theorem d_MD_byteAt_14 : decode c_MD_byteAt 14 = .ok (.sipush 255, 3) := by decide +kernel
theorem d_MD_byteAt_17 : decode c_MD_byteAt 17 = .ok (.iand, 1) := by decide +kernel
theorem d_MD_byteAt_18 : decode c_MD_byteAt 18 = .ok (.goto 4, 3) := by decide +kernel
theorem d_MD_byteAt_21 : decode c_MD_byteAt 21 = .ok (.iconst (-1), 1) := by decide +kernel
theorem d_MD_byteAt_22 : decode c_MD_byteAt 22 = .ok (.ireturn, 1) := by decide +kernel
theorem d_MD_isOver_0 : decode c_MD_isOver 0 = .ok (.aload_n 0, 1) := by decide +kernel
theorem d_MD_isOver_1 : decode c_MD_isOver 1 = .ok (.getfield 95, 3) := by decide +kernel
theorem d_MD_isOver_4 : decode c_MD_isOver 4 = .ok (.aload_n 0, 1) := by decide +kernel
theorem d_MD_isOver_5 : decode c_MD_isOver 5 = .ok (.getfield 92, 3) := by decide +kernel
theorem d_MD_isOver_8 : decode c_MD_isOver 8 = .ok (.if_icmp .ge 31, 3) := by decide +kernel
theorem d_MD_isOver_11 : decode c_MD_isOver 11 = .ok (.aload_n 0, 1) := by decide +kernel
theorem d_MD_isOver_12 : decode c_MD_isOver 12 = .ok (.getfield 11, 3) := by decide +kernel
theorem d_MD_isOver_15 : decode c_MD_isOver 15 = .ok (.aload_n 0, 1) := by decide +kernel
theorem d_MD_isOver_16 : decode c_MD_isOver 16 = .ok (.getfield 95, 3) := by decide +kernel
theorem d_MD_isOver_19 : decode c_MD_isOver 19 = .ok (.baload, 1) := by decide +kernel
theorem d_MD_isOver_20 : decode c_MD_isOver 20 = .ok (.bipush 10, 2) := by decide +kernel
theorem d_MD_isOver_22 : decode c_MD_isOver 22 = .ok (.if_icmp .eq 17, 3) := by decide +kernel
theorem d_MD_isOver_25 : decode c_MD_isOver 25 = .ok (.aload_n 0, 1) := by decide +kernel
theorem d_MD_isOver_26 : decode c_MD_isOver 26 = .ok (.getfield 11, 3) := by decide +kernel
theorem d_MD_isOver_29 : decode c_MD_isOver 29 = .ok (.aload_n 0, 1) := by decide +kernel
theorem d_MD_isOver_30 : decode c_MD_isOver 30 = .ok (.getfield 95, 3) := by decide +kernel
theorem d_MD_isOver_33 : decode c_MD_isOver 33 = .ok (.baload, 1) := by decide +kernel
theorem d_MD_isOver_34 : decode c_MD_isOver 34 = .ok (.bipush 59, 2) := by decide +kernel
theorem d_MD_isOver_36 : decode c_MD_isOver 36 = .ok (.if_icmp .ne 7, 3) := by decide +kernel
theorem d_MD_isOver_39 : decode c_MD_isOver 39 = .ok (.iconst 1, 1) := by decide +kernel
theorem d_MD_isOver_40 : decode c_MD_isOver 40 = .ok (.goto 4, 3) := by decide +kernel
theorem d_MD_isOver_43 : decode c_MD_isOver 43 = .ok (.iconst 0, 1) := by decide +kernel
theorem d_MD_isOver_44 : decode c_MD_isOver 44 = .ok (.ireturn, 1) := by decide +kernel
theorem d_MD_blanks_0 : decode c_MD_blanks 0 = .ok (.aload_n 0, 1) := by decide +kernel
theorem d_MD_blanks_1 : decode c_MD_blanks 1 = .ok (.getfield 95, 3) := by decide +kernel
theorem d_MD_blanks_4 : decode c_MD_blanks 4 = .ok (.aload_n 0, 1) := by decide +kernel
theorem d_MD_blanks_5 : decode c_MD_blanks 5 = .ok (.getfield 92, 3) := by decide +kernel
theorem d_MD_blanks_8 : decode c_MD_blanks 8 = .ok (.if_icmp .ge 30, 3) := by decide +kernel
theorem d_MD_blanks_11 : decode c_MD_blanks 11 = .ok (.aload_n 0, 1) := by decide +kernel
theorem d_MD_blanks_12 : decode c_MD_blanks 12 = .ok (.getfield 11, 3) := by decide +kernel
theorem d_MD_blanks_15 : decode c_MD_blanks 15 = .ok (.aload_n 0, 1) := by decide +kernel
theorem d_MD_blanks_16 : decode c_MD_blanks 16 = .ok (.getfield 95, 3) := by decide +kernel
theorem d_MD_blanks_19 : decode c_MD_blanks 19 = .ok (.baload, 1) := by decide +kernel
theorem d_MD_blanks_20 : decode c_MD_blanks 20 = .ok (.bipush 32, 2) := by decide +kernel
theorem d_MD_blanks_22 : decode c_MD_blanks 22 = .ok (.if_icmp .ne 16, 3) := by decide +kernel
theorem d_MD_blanks_25 : decode c_MD_blanks 25 = .ok (.aload_n 0, 1) := by decide +kernel
theorem d_MD_blanks_26 : decode c_MD_blanks 26 = .ok (.dup, 1) := by decide +kernel
theorem d_MD_blanks_27 : decode c_MD_blanks 27 = .ok (.getfield 95, 3) := by decide +kernel
theorem d_MD_blanks_30 : decode c_MD_blanks 30 = .ok (.iconst 1, 1) := by decide +kernel
theorem d_MD_blanks_31 : decode c_MD_blanks 31 = .ok (.iadd, 1) := by decide +kernel
theorem d_MD_blanks_32 : decode c_MD_blanks 32 = .ok (.putfield 95, 3) := by decide +kernel
theorem d_MD_blanks_35 : decode c_MD_blanks 35 = .ok (.goto (-35), 3) := by decide +kernel
theorem d_MD_blanks_38 : decode c_MD_blanks 38 = .ok (.return_, 1) := by decide +kernel
theorem d_MD_isSmall_0 : decode c_MD_isSmall 0 = .ok (.iload_n 0, 1) := by decide +kernel
theorem d_MD_isSmall_1 : decode c_MD_isSmall 1 = .ok (.bipush 97, 2) := by decide +kernel
theorem d_MD_isSmall_3 : decode c_MD_isSmall 3 = .ok (.if_icmp .lt 13, 3) := by decide +kernel
theorem d_MD_isSmall_6 : decode c_MD_isSmall 6 = .ok (.iload_n 0, 1) := by decide +kernel
theorem d_MD_isSmall_7 : decode c_MD_isSmall 7 = .ok (.bipush 122, 2) := by decide +kernel
theorem d_MD_isSmall_9 : decode c_MD_isSmall 9 = .ok (.if_icmp .gt 7, 3) := by decide +kernel
theorem d_MD_isSmall_12 : decode c_MD_isSmall 12 = .ok (.iconst 1, 1) := by decide +kernel
theorem d_MD_isSmall_13 : decode c_MD_isSmall 13 = .ok (.goto 4, 3) := by decide +kernel
theorem d_MD_isSmall_16 : decode c_MD_isSmall 16 = .ok (.iconst 0, 1) := by decide +kernel
theorem d_MD_isSmall_17 : decode c_MD_isSmall 17 = .ok (.ireturn, 1) := by decide +kernel
theorem d_MD_isDigit_0 : decode c_MD_isDigit 0 = .ok (.iload_n 0, 1) := by decide +kernel
theorem d_MD_isDigit_1 : decode c_MD_isDigit 1 = .ok (.bipush 48, 2) := by decide +kernel
theorem d_MD_isDigit_3 : decode c_MD_isDigit 3 = .ok (.if_icmp .lt 13, 3) := by decide +kernel
theorem d_MD_isDigit_6 : decode c_MD_isDigit 6 = .ok (.iload_n 0, 1) := by decide +kernel
theorem d_MD_isDigit_7 : decode c_MD_isDigit 7 = .ok (.bipush 57, 2) := by decide +kernel
theorem d_MD_isDigit_9 : decode c_MD_isDigit 9 = .ok (.if_icmp .gt 7, 3) := by decide +kernel
theorem d_MD_isDigit_12 : decode c_MD_isDigit 12 = .ok (.iconst 1, 1) := by decide +kernel
theorem d_MD_isDigit_13 : decode c_MD_isDigit 13 = .ok (.goto 4, 3) := by decide +kernel
theorem d_MD_isDigit_16 : decode c_MD_isDigit 16 = .ok (.iconst 0, 1) := by decide +kernel
theorem d_MD_isDigit_17 : decode c_MD_isDigit 17 = .ok (.ireturn, 1) := by decide +kernel
theorem d_MD_isGreat_0 : decode c_MD_isGreat 0 = .ok (.iload_n 0, 1) := by decide +kernel
theorem d_MD_isGreat_1 : decode c_MD_isGreat 1 = .ok (.bipush 65, 2) := by decide +kernel
theorem d_MD_isGreat_3 : decode c_MD_isGreat 3 = .ok (.if_icmp .lt 13, 3) := by decide +kernel
theorem d_MD_isGreat_6 : decode c_MD_isGreat 6 = .ok (.iload_n 0, 1) := by decide +kernel
theorem d_MD_isGreat_7 : decode c_MD_isGreat 7 = .ok (.bipush 90, 2) := by decide +kernel
theorem d_MD_isGreat_9 : decode c_MD_isGreat 9 = .ok (.if_icmp .gt 7, 3) := by decide +kernel
theorem d_MD_isGreat_12 : decode c_MD_isGreat 12 = .ok (.iconst 1, 1) := by decide +kernel
theorem d_MD_isGreat_13 : decode c_MD_isGreat 13 = .ok (.goto 4, 3) := by decide +kernel
theorem d_MD_isGreat_16 : decode c_MD_isGreat 16 = .ok (.iconst 0, 1) := by decide +kernel
theorem d_MD_isGreat_17 : decode c_MD_isGreat 17 = .ok (.ireturn, 1) := by decide +kernel
theorem d_MD_nameAt_0 : decode c_MD_nameAt 0 = .ok (.aload_n 0, 1) := by decide +kernel
theorem d_MD_nameAt_1 : decode c_MD_nameAt 1 = .ok (.iload_n 1, 1) := by decide +kernel
theorem d_MD_nameAt_2 : decode c_MD_nameAt 2 = .ok (.invokevirtual 98, 3) := by decide +kernel
theorem d_MD_nameAt_5 : decode c_MD_nameAt 5 = .ok (.invokestatic 102, 3) := by decide +kernel
theorem d_MD_nameAt_8 : decode c_MD_nameAt 8 = .ok (.ifCond .ne 5, 3) := by decide +kernel
theorem d_MD_nameAt_11 : decode c_MD_nameAt 11 = .ok (.iconst 0, 1) := by decide +kernel
theorem d_MD_nameAt_12 : decode c_MD_nameAt 12 = .ok (.ireturn, 1) := by decide +kernel
theorem d_MD_nameAt_13 : decode c_MD_nameAt 13 = .ok (.iconst 1, 1) := by decide +kernel
theorem d_MD_nameAt_14 : decode c_MD_nameAt 14 = .ok (.istore_n 2, 1) := by decide +kernel
theorem d_MD_nameAt_15 : decode c_MD_nameAt 15 = .ok (.aload_n 0, 1) := by decide +kernel
theorem d_MD_nameAt_16 : decode c_MD_nameAt 16 = .ok (.iload_n 1, 1) := by decide +kernel
theorem d_MD_nameAt_17 : decode c_MD_nameAt 17 = .ok (.iload_n 2, 1) := by decide +kernel
theorem d_MD_nameAt_18 : decode c_MD_nameAt 18 = .ok (.iadd, 1) := by decide +kernel
theorem d_MD_nameAt_19 : decode c_MD_nameAt 19 = .ok (.invokevirtual 98, 3) := by decide +kernel
theorem d_MD_nameAt_22 : decode c_MD_nameAt 22 = .ok (.invokestatic 102, 3) := by decide +kernel
theorem d_MD_nameAt_25 : decode c_MD_nameAt 25 = .ok (.ifCond .ne 16, 3) := by decide +kernel
theorem d_MD_nameAt_28 : decode c_MD_nameAt 28 = .ok (.aload_n 0, 1) := by decide +kernel
theorem d_MD_nameAt_29 : decode c_MD_nameAt 29 = .ok (.iload_n 1, 1) := by decide +kernel
theorem d_MD_nameAt_30 : decode c_MD_nameAt 30 = .ok (.iload_n 2, 1) := by decide +kernel
theorem d_MD_nameAt_31 : decode c_MD_nameAt 31 = .ok (.iadd, 1) := by decide +kernel
theorem d_MD_nameAt_32 : decode c_MD_nameAt 32 = .ok (.invokevirtual 98, 3) := by decide +kernel
theorem d_MD_nameAt_35 : decode c_MD_nameAt 35 = .ok (.invokestatic 106, 3) := by decide +kernel
theorem d_MD_nameAt_38 : decode c_MD_nameAt 38 = .ok (.ifCond .eq 9, 3) := by decide +kernel
theorem d_MD_nameAt_41 : decode c_MD_nameAt 41 = .ok (.iinc 2 1, 3) := by decide +kernel
theorem d_MD_nameAt_44 : decode c_MD_nameAt 44 = .ok (.goto (-29), 3) := by decide +kernel
theorem d_MD_nameAt_47 : decode c_MD_nameAt 47 = .ok (.iload_n 2, 1) := by decide +kernel
theorem d_MD_nameAt_48 : decode c_MD_nameAt 48 = .ok (.bipush 8, 2) := by decide +kernel
theorem d_MD_nameAt_50 : decode c_MD_nameAt 50 = .ok (.if_icmp .le 7, 3) := by decide +kernel
theorem d_MD_nameAt_53 : decode c_MD_nameAt 53 = .ok (.iconst 0, 1) := by decide +kernel
theorem d_MD_nameAt_54 : decode c_MD_nameAt 54 = .ok (.goto 4, 3) := by decide +kernel
theorem d_MD_nameAt_57 : decode c_MD_nameAt 57 = .ok (.iload_n 2, 1) := by decide +kernel
theorem d_MD_nameAt_58 : decode c_MD_nameAt 58 = .ok (.ireturn, 1) := by decide +kernel
theorem d_MD_find_0 : decode c_MD_find 0 = .ok (.iconst 0, 1) := by decide +kernel
theorem d_MD_find_1 : decode c_MD_find 1 = .ok (.istore_n 3, 1) := by decide +kernel
theorem d_MD_find_2 : decode c_MD_find 2 = .ok (.iload_n 3, 1) := by decide +kernel
theorem d_MD_find_3 : decode c_MD_find 3 = .ok (.aload_n 0, 1) := by decide +kernel
theorem d_MD_find_4 : decode c_MD_find 4 = .ok (.getfield 109, 3) := by decide +kernel
theorem d_MD_find_7 : decode c_MD_find 7 = .ok (.if_icmp .ge 86, 3) := by decide +kernel
theorem d_MD_find_10 : decode c_MD_find 10 = .ok (.aload_n 0, 1) := by decide +kernel
theorem d_MD_find_11 : decode c_MD_find 11 = .ok (.getfield 83, 3) := by decide +kernel
theorem d_MD_find_14 : decode c_MD_find 14 = .ok (.iload_n 3, 1) := by decide +kernel
theorem d_MD_find_15 : decode c_MD_find 15 = .ok (.iaload, 1) := by decide +kernel
theorem d_MD_find_16 : decode c_MD_find 16 = .ok (.iload_n 2, 1) := by decide +kernel
theorem d_MD_find_17 : decode c_MD_find 17 = .ok (.if_icmp .ne 7, 3) := by decide +kernel
theorem d_MD_find_20 : decode c_MD_find 20 = .ok (.iconst 1, 1) := by decide +kernel
theorem d_MD_find_21 : decode c_MD_find 21 = .ok (.goto 4, 3) := by decide +kernel
theorem d_MD_find_24 : decode c_MD_find 24 = .ok (.iconst 0, 1) := by decide +kernel
theorem d_MD_find_25 : decode c_MD_find 25 = .ok (.istore 4, 2) := by decide +kernel
theorem d_MD_find_27 : decode c_MD_find 27 = .ok (.iconst 0, 1) := by decide +kernel
theorem d_MD_find_28 : decode c_MD_find 28 = .ok (.istore 5, 2) := by decide +kernel
theorem d_MD_find_30 : decode c_MD_find 30 = .ok (.iload 5, 2) := by decide +kernel
theorem d_MD_find_32 : decode c_MD_find 32 = .ok (.iload_n 2, 1) := by decide +kernel
theorem d_MD_find_33 : decode c_MD_find 33 = .ok (.if_icmp .ge 47, 3) := by decide +kernel
theorem d_MD_find_36 : decode c_MD_find 36 = .ok (.iload 4, 2) := by decide +kernel
theorem d_MD_find_38 : decode c_MD_find 38 = .ok (.ifCond .eq 42, 3) := by decide +kernel
theorem d_MD_find_41 : decode c_MD_find 41 = .ok (.aload_n 0, 1) := by decide +kernel
theorem d_MD_find_42 : decode c_MD_find 42 = .ok (.getfield 11, 3) := by decide +kernel
theorem d_MD_find_45 : decode c_MD_find 45 = .ok (.aload_n 0, 1) := by decide +kernel
theorem d_MD_find_46 : decode c_MD_find 46 = .ok (.getfield 80, 3) := by decide +kernel
theorem d_MD_find_49 : decode c_MD_find 49 = .ok (.iload_n 3, 1) := by decide +kernel
theorem d_MD_find_50 : decode c_MD_find 50 = .ok (.iaload, 1) := by decide +kernel
theorem d_MD_find_51 : decode c_MD_find 51 = .ok (.iload 5, 2) := by decide +kernel
theorem d_MD_find_53 : decode c_MD_find 53 = .ok (.iadd, 1) := by decide +kernel
theorem d_MD_find_54 : decode c_MD_find 54 = .ok (.baload, 1) := by decide +kernel
theorem d_MD_find_55 : decode c_MD_find 55 = .ok (.aload_n 0, 1) := by decide +kernel
theorem d_MD_find_56 : decode c_MD_find 56 = .ok (.getfield 11, 3) := by decide +kernel
theorem d_MD_find_59 : decode c_MD_find 59 = .ok (.iload_n 1, 1) := by decide +kernel
theorem d_MD_find_60 : decode c_MD_find 60 = .ok (.iload 5, 2) := by decide +kernel
theorem d_MD_find_62 : decode c_MD_find 62 = .ok (.iadd, 1) := by decide +kernel
theorem d_MD_find_63 : decode c_MD_find 63 = .ok (.baload, 1) := by decide +kernel
theorem d_MD_find_64 : decode c_MD_find 64 = .ok (.if_icmp .ne 7, 3) := by decide +kernel
theorem d_MD_find_67 : decode c_MD_find 67 = .ok (.iconst 1, 1) := by decide +kernel
theorem d_MD_find_68 : decode c_MD_find 68 = .ok (.goto 4, 3) := by decide +kernel
theorem d_MD_find_71 : decode c_MD_find 71 = .ok (.iconst 0, 1) := by decide +kernel
theorem d_MD_find_72 : decode c_MD_find 72 = .ok (.istore 4, 2) := by decide +kernel
theorem d_MD_find_74 : decode c_MD_find 74 = .ok (.iinc 5 1, 3) := by decide +kernel
theorem d_MD_find_77 : decode c_MD_find 77 = .ok (.goto (-47), 3) := by decide +kernel
theorem d_MD_find_80 : decode c_MD_find 80 = .ok (.iload 4, 2) := by decide +kernel
theorem d_MD_find_82 : decode c_MD_find 82 = .ok (.ifCond .eq 5, 3) := by decide +kernel
theorem d_MD_find_85 : decode c_MD_find 85 = .ok (.iload_n 3, 1) := by decide +kernel
theorem d_MD_find_86 : decode c_MD_find 86 = .ok (.ireturn, 1) := by decide +kernel
theorem d_MD_find_87 : decode c_MD_find 87 = .ok (.iinc 3 1, 3) := by decide +kernel
theorem d_MD_find_90 : decode c_MD_find 90 = .ok (.goto (-88), 3) := by decide +kernel
theorem d_MD_find_93 : decode c_MD_find 93 = .ok (.iconst (-1), 1) := by decide +kernel
theorem d_MD_find_94 : decode c_MD_find 94 = .ok (.ireturn, 1) := by decide +kernel
theorem d_MD_order_0 : decode c_MD_order 0 = .ok (.aload_n 0, 1) := by decide +kernel
theorem d_MD_order_1 : decode c_MD_order 1 = .ok (.getfield 95, 3) := by decide +kernel
theorem d_MD_order_4 : decode c_MD_order 4 = .ok (.istore_n 1, 1) := by decide +kernel
theorem d_MD_order_5 : decode c_MD_order 5 = .ok (.aload_n 0, 1) := by decide +kernel
theorem d_MD_order_6 : decode c_MD_order 6 = .ok (.aload_n 0, 1) := by decide +kernel
theorem d_MD_order_7 : decode c_MD_order 7 = .ok (.getfield 95, 3) := by decide +kernel
theorem d_MD_order_10 : decode c_MD_order 10 = .ok (.invokevirtual 98, 3) := by decide +kernel
theorem d_MD_order_13 : decode c_MD_order 13 = .ok (.invokestatic 112, 3) := by decide +kernel
theorem d_MD_order_16 : decode c_MD_order 16 = .ok (.ifCond .eq 16, 3) := by decide +kernel
theorem d_MD_order_19 : decode c_MD_order 19 = .ok (.aload_n 0, 1) := by decide +kernel
theorem d_MD_order_20 : decode c_MD_order 20 = .ok (.dup, 1) := by decide +kernel
theorem d_MD_order_21 : decode c_MD_order 21 = .ok (.getfield 95, 3) := by decide +kernel
theorem d_MD_order_24 : decode c_MD_order 24 = .ok (.iconst 1, 1) := by decide +kernel
theorem d_MD_order_25 : decode c_MD_order 25 = .ok (.iadd, 1) := by decide +kernel
theorem d_MD_order_26 : decode c_MD_order 26 = .ok (.putfield 95, 3) := by decide +kernel
theorem d_MD_order_29 : decode c_MD_order 29 = .ok (.goto (-24), 3) := by decide +kernel
theorem d_MD_order_32 : decode c_MD_order 32 = .ok (.aload_n 0, 1) := by decide +kernel
theorem d_MD_order_33 : decode c_MD_order 33 = .ok (.getfield 95, 3) := by decide +kernel
theorem d_MD_order_36 : decode c_MD_order 36 = .ok (.iload_n 1, 1) := by decide +kernel
theorem d_MD_order_37 : decode c_MD_order 37 = .ok (.isub, 1) := by decide +kernel
theorem d_MD_order_38 : decode c_MD_order 38 = .ok (.istore_n 2, 1) := by decide +kernel
theorem d_MD_order_39 : decode c_MD_order 39 = .ok (.iconst 0, 1) := by decide +kernel
theorem d_MD_order_40 : decode c_MD_order 40 = .ok (.istore_n 3, 1) := by decide +kernel
theorem d_MD_order_41 : decode c_MD_order 41 = .ok (.iload_n 3, 1) := by decide +kernel
theorem d_MD_order_42 : decode c_MD_order 42 = .ok (.bipush 28, 2) := by decide +kernel
theorem d_MD_order_44 : decode c_MD_order 44 = .ok (.if_icmp .ge 104, 3) := by decide +kernel
theorem d_MD_order_47 : decode c_MD_order 47 = .ok (.iload_n 3, 1) := by decide +kernel
theorem d_MD_order_48 : decode c_MD_order 48 = .ok (.invokestatic 115, 3) := by decide +kernel
theorem d_MD_order_51 : decode c_MD_order 51 = .ok (.lstore 4, 2) := by decide +kernel
theorem d_MD_order_53 : decode c_MD_order 53 = .ok (.iconst 1, 1) := by decide +kernel
theorem d_MD_order_54 : decode c_MD_order 54 = .ok (.istore 6, 2) := by decide +kernel
theorem d_MD_order_56 : decode c_MD_order 56 = .ok (.iconst 0, 1) := by decide +kernel
theorem d_MD_order_57 : decode c_MD_order 57 = .ok (.istore 7, 2) := by decide +kernel
theorem d_MD_order_59 : decode c_MD_order 59 = .ok (.bipush 40, 2) := by decide +kernel
theorem d_MD_order_61 : decode c_MD_order 61 = .ok (.istore 8, 2) := by decide +kernel
theorem d_MD_order_63 : decode c_MD_order 63 = .ok (.iload 8, 2) := by decide +kernel
theorem d_MD_order_65 : decode c_MD_order 65 = .ok (.ifCond .lt 64, 3) := by decide +kernel
theorem d_MD_order_68 : decode c_MD_order 68 = .ok (.iload 6, 2) := by decide +kernel
theorem d_MD_order_70 : decode c_MD_order 70 = .ok (.ifCond .eq 59, 3) := by decide +kernel
theorem d_MD_order_73 : decode c_MD_order 73 = .ok (.lload 4, 2) := by decide +kernel
theorem d_MD_order_75 : decode c_MD_order 75 = .ok (.iload 8, 2) := by decide +kernel
theorem d_MD_order_77 : decode c_MD_order 77 = .ok (.lshr, 1) := by decide +kernel
theorem d_MD_order_78 : decode c_MD_order 78 = .ok (.ldc2_w 119, 3) := by decide +kernel
theorem d_MD_order_81 : decode c_MD_order 81 = .ok (.land, 1) := by decide +kernel
theorem d_MD_order_82 : decode c_MD_order 82 = .ok (.l2i, 1) := by decide +kernel
theorem d_MD_order_83 : decode c_MD_order 83 = .ok (.istore 9, 2) := by decide +kernel
theorem d_MD_order_85 : decode c_MD_order 85 = .ok (.iload 9, 2) := by decide +kernel
theorem d_MD_order_87 : decode c_MD_order 87 = .ok (.ifCond .ne 6, 3) := by decide +kernel
theorem d_MD_order_90 : decode c_MD_order 90 = .ok (.goto 33, 3) := by decide +kernel
theorem d_MD_order_93 : decode c_MD_order 93 = .ok (.iload 7, 2) := by decide +kernel
theorem d_MD_order_95 : decode c_MD_order 95 = .ok (.iload_n 2, 1) := by decide +kernel
theorem d_MD_order_96 : decode c_MD_order 96 = .ok (.if_icmp .ge 21, 3) := by decide +kernel
theorem d_MD_order_99 : decode c_MD_order 99 = .ok (.aload_n 0, 1) := by decide +kernel
theorem d_MD_order_100 : decode c_MD_order 100 = .ok (.getfield 11, 3) := by decide +kernel
theorem d_MD_order_103 : decode c_MD_order 103 = .ok (.iload_n 1, 1) := by decide +kernel
theorem d_MD_order_104 : decode c_MD_order 104 = .ok (.iload 7, 2) := by decide +kernel
theorem d_MD_order_106 : decode c_MD_order 106 = .ok (.iadd, 1) := by decide +kernel
theorem d_MD_order_107 : decode c_MD_order 107 = .ok (.baload, 1) := by decide +kernel
theorem d_MD_order_108 : decode c_MD_order 108 = .ok (.iload 9, 2) := by decide +kernel
theorem d_MD_order_110 : decode c_MD_order 110 = .ok (.if_icmp .ne 7, 3) := by decide +kernel
theorem d_MD_order_113 : decode c_MD_order 113 = .ok (.iconst 1, 1) := by decide +kernel
theorem d_MD_order_114 : decode c_MD_order 114 = .ok (.goto 4, 3) := by decide +kernel
theorem d_MD_order_117 : decode c_MD_order 117 = .ok (.iconst 0, 1) := by decide +kernel
theorem d_MD_order_118 : decode c_MD_order 118 = .ok (.istore 6, 2) := by decide +kernel
theorem d_MD_order_120 : decode c_MD_order 120 = .ok (.iinc 7 1, 3) := by decide +kernel
theorem d_MD_order_123 : decode c_MD_order 123 = .ok (.iinc 8 (-8), 3) := by decide +kernel
theorem d_MD_order_126 : decode c_MD_order 126 = .ok (.goto (-63), 3) := by decide +kernel
theorem d_MD_order_129 : decode c_MD_order 129 = .ok (.iload 6, 2) := by decide +kernel
theorem d_MD_order_131 : decode c_MD_order 131 = .ok (.ifCond .eq 11, 3) := by decide +kernel
theorem d_MD_order_134 : decode c_MD_order 134 = .ok (.iload 7, 2) := by decide +kernel
theorem d_MD_order_136 : decode c_MD_order 136 = .ok (.iload_n 2, 1) := by decide +kernel
theorem d_MD_order_137 : decode c_MD_order 137 = .ok (.if_icmp .ne 5, 3) := by decide +kernel
theorem d_MD_order_140 : decode c_MD_order 140 = .ok (.iload_n 3, 1) := by decide +kernel
theorem d_MD_order_141 : decode c_MD_order 141 = .ok (.ireturn, 1) := by decide +kernel
theorem d_MD_order_142 : decode c_MD_order 142 = .ok (.iinc 3 1, 3) := by decide +kernel
theorem d_MD_order_145 : decode c_MD_order 145 = .ok (.goto (-104), 3) := by decide +kernel
theorem d_MD_order_148 : decode c_MD_order 148 = .ok (.iconst (-1), 1) := by decide +kernel
theorem d_MD_order_149 : decode c_MD_order 149 = .ok (.ireturn, 1) := by decide +kernel
theorem d_MD_name_0 : decode c_MD_name 0 = .ok (.iload_n 0, 1) := by decide +kernel
theorem d_MD_name_1 : decode c_MD_name 1 = .ok (.tableswitch 231 0 26 #[123, 127, 131, 135, 139, 143, 147, 151, 155, 159, 163, 167, 171, 175, 179, 183, 187, 191, 195, 199, 203, 207, 211, 215, 219, 223, 227], 123) := by decide +kernel
theorem d_MD_name_124 : decode c_MD_name 124 = .ok (.ldc2_w 121, 3) := by decide +kernel
theorem d_MD_name_127 : decode c_MD_name 127 = .ok (.lreturn, 1) := by decide +kernel
theorem d_MD_name_128 : decode c_MD_name 128 = .ok (.ldc2_w 123, 3) := by decide +kernel
theorem d_MD_name_131 : decode c_MD_name 131 = .ok (.lreturn, 1) := by decide +kernel
theorem d_MD_name_132 : decode c_MD_name 132 = .ok (.ldc2_w 125, 3) := by decide +kernel
theorem d_MD_name_135 : decode c_MD_name 135 = .ok (.lreturn, 1) := by decide +kernel
theorem d_MD_name_136 : decode c_MD_name 136 = .ok (.ldc2_w 127, 3) := by decide +kernel
theorem d_MD_name_139 : decode c_MD_name 139 = .ok (.lreturn, 1) := by decide +kernel
theorem d_MD_name_140 : decode c_MD_name 140 = .ok (.ldc2_w 129, 3) := by decide +kernel
theorem d_MD_name_143 : decode c_MD_name 143 = .ok (.lreturn, 1) := by decide +kernel
theorem d_MD_name_144 : decode c_MD_name 144 = .ok (.ldc2_w 131, 3) := by decide +kernel
theorem d_MD_name_147 : decode c_MD_name 147 = .ok (.lreturn, 1) := by decide +kernel
theorem d_MD_name_148 : decode c_MD_name 148 = .ok (.ldc2_w 133, 3) := by decide +kernel
theorem d_MD_name_151 : decode c_MD_name 151 = .ok (.lreturn, 1) := by decide +kernel
theorem d_MD_name_152 : decode c_MD_name 152 = .ok (.ldc2_w 135, 3) := by decide +kernel
theorem d_MD_name_155 : decode c_MD_name 155 = .ok (.lreturn, 1) := by decide +kernel
theorem d_MD_name_156 : decode c_MD_name 156 = .ok (.ldc2_w 137, 3) := by decide +kernel
theorem d_MD_name_159 : decode c_MD_name 159 = .ok (.lreturn, 1) := by decide +kernel
theorem d_MD_name_160 : decode c_MD_name 160 = .ok (.ldc2_w 139, 3) := by decide +kernel
theorem d_MD_name_163 : decode c_MD_name 163 = .ok (.lreturn, 1) := by decide +kernel
theorem d_MD_name_164 : decode c_MD_name 164 = .ok (.ldc2_w 141, 3) := by decide +kernel
theorem d_MD_name_167 : decode c_MD_name 167 = .ok (.lreturn, 1) := by decide +kernel
theorem d_MD_name_168 : decode c_MD_name 168 = .ok (.ldc2_w 143, 3) := by decide +kernel
theorem d_MD_name_171 : decode c_MD_name 171 = .ok (.lreturn, 1) := by decide +kernel
theorem d_MD_name_172 : decode c_MD_name 172 = .ok (.ldc2_w 145, 3) := by decide +kernel
theorem d_MD_name_175 : decode c_MD_name 175 = .ok (.lreturn, 1) := by decide +kernel
theorem d_MD_name_176 : decode c_MD_name 176 = .ok (.ldc2_w 147, 3) := by decide +kernel
theorem d_MD_name_179 : decode c_MD_name 179 = .ok (.lreturn, 1) := by decide +kernel
theorem d_MD_name_180 : decode c_MD_name 180 = .ok (.ldc2_w 149, 3) := by decide +kernel
theorem d_MD_name_183 : decode c_MD_name 183 = .ok (.lreturn, 1) := by decide +kernel
theorem d_MD_name_184 : decode c_MD_name 184 = .ok (.ldc2_w 151, 3) := by decide +kernel
theorem d_MD_name_187 : decode c_MD_name 187 = .ok (.lreturn, 1) := by decide +kernel
theorem d_MD_name_188 : decode c_MD_name 188 = .ok (.ldc2_w 153, 3) := by decide +kernel
theorem d_MD_name_191 : decode c_MD_name 191 = .ok (.lreturn, 1) := by decide +kernel
theorem d_MD_name_192 : decode c_MD_name 192 = .ok (.ldc2_w 155, 3) := by decide +kernel
theorem d_MD_name_195 : decode c_MD_name 195 = .ok (.lreturn, 1) := by decide +kernel
theorem d_MD_name_196 : decode c_MD_name 196 = .ok (.ldc2_w 157, 3) := by decide +kernel
theorem d_MD_name_199 : decode c_MD_name 199 = .ok (.lreturn, 1) := by decide +kernel
theorem d_MD_name_200 : decode c_MD_name 200 = .ok (.ldc2_w 159, 3) := by decide +kernel
theorem d_MD_name_203 : decode c_MD_name 203 = .ok (.lreturn, 1) := by decide +kernel
theorem d_MD_name_204 : decode c_MD_name 204 = .ok (.ldc2_w 161, 3) := by decide +kernel
theorem d_MD_name_207 : decode c_MD_name 207 = .ok (.lreturn, 1) := by decide +kernel
theorem d_MD_name_208 : decode c_MD_name 208 = .ok (.ldc2_w 163, 3) := by decide +kernel
theorem d_MD_name_211 : decode c_MD_name 211 = .ok (.lreturn, 1) := by decide +kernel
theorem d_MD_name_212 : decode c_MD_name 212 = .ok (.ldc2_w 165, 3) := by decide +kernel
theorem d_MD_name_215 : decode c_MD_name 215 = .ok (.lreturn, 1) := by decide +kernel
theorem d_MD_name_216 : decode c_MD_name 216 = .ok (.ldc2_w 167, 3) := by decide +kernel
theorem d_MD_name_219 : decode c_MD_name 219 = .ok (.lreturn, 1) := by decide +kernel
theorem d_MD_name_220 : decode c_MD_name 220 = .ok (.ldc2_w 169, 3) := by decide +kernel
theorem d_MD_name_223 : decode c_MD_name 223 = .ok (.lreturn, 1) := by decide +kernel
theorem d_MD_name_224 : decode c_MD_name 224 = .ok (.ldc2_w 171, 3) := by decide +kernel
theorem d_MD_name_227 : decode c_MD_name 227 = .ok (.lreturn, 1) := by decide +kernel
theorem d_MD_name_228 : decode c_MD_name 228 = .ok (.ldc2_w 173, 3) := by decide +kernel
theorem d_MD_name_231 : decode c_MD_name 231 = .ok (.lreturn, 1) := by decide +kernel
theorem d_MD_name_232 : decode c_MD_name 232 = .ok (.ldc2_w 175, 3) := by decide +kernel
theorem d_MD_name_235 : decode c_MD_name 235 = .ok (.lreturn, 1) := by decide +kernel
theorem d_MD_gap_0 : decode c_MD_gap 0 = .ok (.aload_n 0, 1) := by decide +kernel
theorem d_MD_gap_1 : decode c_MD_gap 1 = .ok (.aload_n 0, 1) := by decide +kernel
theorem d_MD_gap_2 : decode c_MD_gap 2 = .ok (.getfield 177, 3) := by decide +kernel
theorem d_MD_gap_5 : decode c_MD_gap 5 = .ok (.ifCond .eq 20, 3) := by decide +kernel
theorem d_MD_gap_8 : decode c_MD_gap 8 = .ok (.aload_n 0, 1) := by decide +kernel
theorem d_MD_gap_9 : decode c_MD_gap 9 = .ok (.aload_n 0, 1) := by decide +kernel
theorem d_MD_gap_10 : decode c_MD_gap 10 = .ok (.getfield 95, 3) := by decide +kernel
theorem d_MD_gap_13 : decode c_MD_gap 13 = .ok (.invokevirtual 98, 3) := by decide +kernel
theorem d_MD_gap_16 : decode c_MD_gap 16 = .ok (.bipush 32, 2) := by decide +kernel
theorem d_MD_gap_18 : decode c_MD_gap 18 = .ok (.if_icmp .ne 7, 3) := by decide +kernel
theorem d_MD_gap_21 : decode c_MD_gap 21 = .ok (.iconst 1, 1) := by decide +kernel
theorem d_MD_gap_22 : decode c_MD_gap 22 = .ok (.goto 4, 3) := by decide +kernel
theorem d_MD_gap_25 : decode c_MD_gap 25 = .ok (.iconst 0, 1) := by decide +kernel
theorem d_MD_gap_26 : decode c_MD_gap 26 = .ok (.putfield 177, 3) := by decide +kernel
theorem d_MD_gap_29 : decode c_MD_gap 29 = .ok (.aload_n 0, 1) := by decide +kernel
theorem d_MD_gap_30 : decode c_MD_gap 30 = .ok (.invokevirtual 181, 3) := by decide +kernel
theorem d_MD_gap_33 : decode c_MD_gap 33 = .ok (.return_, 1) := by decide +kernel
theorem d_MD_register_0 : decode c_MD_register 0 = .ok (.aload_n 0, 1) := by decide +kernel
theorem d_MD_register_1 : decode c_MD_register 1 = .ok (.invokevirtual 184, 3) := by decide +kernel
theorem d_MD_register_4 : decode c_MD_register 4 = .ok (.aload_n 0, 1) := by decide +kernel
theorem d_MD_register_5 : decode c_MD_register 5 = .ok (.aload_n 0, 1) := by decide +kernel
theorem d_MD_register_6 : decode c_MD_register 6 = .ok (.getfield 177, 3) := by decide +kernel
theorem d_MD_register_9 : decode c_MD_register 9 = .ok (.ifCond .eq 50, 3) := by decide +kernel
theorem d_MD_register_12 : decode c_MD_register 12 = .ok (.aload_n 0, 1) := by decide +kernel
theorem d_MD_register_13 : decode c_MD_register 13 = .ok (.aload_n 0, 1) := by decide +kernel
theorem d_MD_register_14 : decode c_MD_register 14 = .ok (.getfield 95, 3) := by decide +kernel
theorem d_MD_register_17 : decode c_MD_register 17 = .ok (.invokevirtual 98, 3) := by decide +kernel
theorem d_MD_register_20 : decode c_MD_register 20 = .ok (.bipush 114, 2) := by decide +kernel
theorem d_MD_register_22 : decode c_MD_register 22 = .ok (.if_icmp .ne 37, 3) := by decide +kernel
theorem d_MD_register_25 : decode c_MD_register 25 = .ok (.aload_n 0, 1) := by decide +kernel
theorem d_MD_register_26 : decode c_MD_register 26 = .ok (.aload_n 0, 1) := by decide +kernel
theorem d_MD_register_27 : decode c_MD_register 27 = .ok (.getfield 95, 3) := by decide +kernel
theorem d_MD_register_30 : decode c_MD_register 30 = .ok (.iconst 1, 1) := by decide +kernel
theorem d_MD_register_31 : decode c_MD_register 31 = .ok (.iadd, 1) := by decide +kernel
theorem d_MD_register_32 : decode c_MD_register 32 = .ok (.invokevirtual 98, 3) := by decide +kernel
theorem d_MD_register_35 : decode c_MD_register 35 = .ok (.bipush 48, 2) := by decide +kernel
theorem d_MD_register_37 : decode c_MD_register 37 = .ok (.if_icmp .lt 22, 3) := by decide +kernel
theorem d_MD_register_40 : decode c_MD_register 40 = .ok (.aload_n 0, 1) := by decide +kernel
theorem d_MD_register_41 : decode c_MD_register 41 = .ok (.aload_n 0, 1) := by decide +kernel
theorem d_MD_register_42 : decode c_MD_register 42 = .ok (.getfield 95, 3) := by decide +kernel
theorem d_MD_register_45 : decode c_MD_register 45 = .ok (.iconst 1, 1) := by decide +kernel
theorem d_MD_register_46 : decode c_MD_register 46 = .ok (.iadd, 1) := by decide +kernel
theorem d_MD_register_47 : decode c_MD_register 47 = .ok (.invokevirtual 98, 3) := by decide +kernel
theorem d_MD_register_50 : decode c_MD_register 50 = .ok (.bipush 55, 2) := by decide +kernel
theorem d_MD_register_52 : decode c_MD_register 52 = .ok (.if_icmp .gt 7, 3) := by decide +kernel
theorem d_MD_register_55 : decode c_MD_register 55 = .ok (.iconst 1, 1) := by decide +kernel
theorem d_MD_register_56 : decode c_MD_register 56 = .ok (.goto 4, 3) := by decide +kernel
theorem d_MD_register_59 : decode c_MD_register 59 = .ok (.iconst 0, 1) := by decide +kernel
theorem d_MD_register_60 : decode c_MD_register 60 = .ok (.putfield 177, 3) := by decide +kernel
theorem d_MD_register_63 : decode c_MD_register 63 = .ok (.aload_n 0, 1) := by decide +kernel
theorem d_MD_register_64 : decode c_MD_register 64 = .ok (.getfield 177, 3) := by decide +kernel
theorem d_MD_register_67 : decode c_MD_register 67 = .ok (.ifCond .eq 19, 3) := by decide +kernel
theorem d_MD_register_70 : decode c_MD_register 70 = .ok (.aload_n 0, 1) := by decide +kernel
theorem d_MD_register_71 : decode c_MD_register 71 = .ok (.aload_n 0, 1) := by decide +kernel
theorem d_MD_register_72 : decode c_MD_register 72 = .ok (.getfield 95, 3) := by decide +kernel
theorem d_MD_register_75 : decode c_MD_register 75 = .ok (.iconst 1, 1) := by decide +kernel
theorem d_MD_register_76 : decode c_MD_register 76 = .ok (.iadd, 1) := by decide +kernel
theorem d_MD_register_77 : decode c_MD_register 77 = .ok (.invokevirtual 98, 3) := by decide +kernel
theorem d_MD_register_80 : decode c_MD_register 80 = .ok (.bipush 48, 2) := by decide +kernel
theorem d_MD_register_82 : decode c_MD_register 82 = .ok (.isub, 1) := by decide +kernel
theorem d_MD_register_83 : decode c_MD_register 83 = .ok (.goto 4, 3) := by decide +kernel
theorem d_MD_register_86 : decode c_MD_register 86 = .ok (.iconst 0, 1) := by decide +kernel
theorem d_MD_register_87 : decode c_MD_register 87 = .ok (.istore_n 1, 1) := by decide +kernel
theorem d_MD_register_88 : decode c_MD_register 88 = .ok (.aload_n 0, 1) := by decide +kernel
theorem d_MD_register_89 : decode c_MD_register 89 = .ok (.getfield 177, 3) := by decide +kernel
theorem d_MD_register_92 : decode c_MD_register 92 = .ok (.ifCond .eq 13, 3) := by decide +kernel
theorem d_MD_register_95 : decode c_MD_register 95 = .ok (.aload_n 0, 1) := by decide +kernel
theorem d_MD_register_96 : decode c_MD_register 96 = .ok (.dup, 1) := by decide +kernel
theorem d_MD_register_97 : decode c_MD_register 97 = .ok (.getfield 95, 3) := by decide +kernel
theorem d_MD_register_100 : decode c_MD_register 100 = .ok (.iconst 2, 1) := by decide +kernel
theorem d_MD_register_101 : decode c_MD_register 101 = .ok (.iadd, 1) := by decide +kernel
theorem d_MD_register_102 : decode c_MD_register 102 = .ok (.putfield 95, 3) := by decide +kernel
theorem d_MD_register_105 : decode c_MD_register 105 = .ok (.iload_n 1, 1) := by decide +kernel
theorem d_MD_register_106 : decode c_MD_register 106 = .ok (.ireturn, 1) := by decide +kernel
theorem d_MD_number_0 : decode c_MD_number 0 = .ok (.iconst 0, 1) := by decide +kernel
theorem d_MD_number_1 : decode c_MD_number 1 = .ok (.istore_n 1, 1) := by decide +kernel
theorem d_MD_number_2 : decode c_MD_number 2 = .ok (.iconst 0, 1) := by decide +kernel
theorem d_MD_number_3 : decode c_MD_number 3 = .ok (.istore_n 2, 1) := by decide +kernel
theorem d_MD_number_4 : decode c_MD_number 4 = .ok (.aload_n 0, 1) := by decide +kernel
theorem d_MD_number_5 : decode c_MD_number 5 = .ok (.aload_n 0, 1) := by decide +kernel
theorem d_MD_number_6 : decode c_MD_number 6 = .ok (.getfield 95, 3) := by decide +kernel
theorem d_MD_number_9 : decode c_MD_number 9 = .ok (.invokevirtual 98, 3) := by decide +kernel
theorem d_MD_number_12 : decode c_MD_number 12 = .ok (.invokestatic 106, 3) := by decide +kernel
theorem d_MD_number_15 : decode c_MD_number 15 = .ok (.ifCond .eq 42, 3) := by decide +kernel
theorem d_MD_number_18 : decode c_MD_number 18 = .ok (.iload_n 2, 1) := by decide +kernel
theorem d_MD_number_19 : decode c_MD_number 19 = .ok (.bipush 6, 2) := by decide +kernel
theorem d_MD_number_21 : decode c_MD_number 21 = .ok (.if_icmp .ge 20, 3) := by decide +kernel
theorem d_MD_number_24 : decode c_MD_number 24 = .ok (.bipush 10, 2) := by decide +kernel
theorem d_MD_number_26 : decode c_MD_number 26 = .ok (.iload_n 1, 1) := by decide +kernel
theorem d_MD_number_27 : decode c_MD_number 27 = .ok (.imul, 1) := by decide +kernel
theorem d_MD_number_28 : decode c_MD_number 28 = .ok (.aload_n 0, 1) := by decide +kernel
theorem d_MD_number_29 : decode c_MD_number 29 = .ok (.aload_n 0, 1) := by decide +kernel
theorem d_MD_number_30 : decode c_MD_number 30 = .ok (.getfield 95, 3) := by decide +kernel
theorem d_MD_number_33 : decode c_MD_number 33 = .ok (.invokevirtual 98, 3) := by decide +kernel
theorem d_MD_number_36 : decode c_MD_number 36 = .ok (.iadd, 1) := by decide +kernel
theorem d_MD_number_37 : decode c_MD_number 37 = .ok (.bipush 48, 2) := by decide +kernel
theorem d_MD_number_39 : decode c_MD_number 39 = .ok (.isub, 1) := by decide +kernel
theorem d_MD_number_40 : decode c_MD_number 40 = .ok (.istore_n 1, 1) := by decide +kernel
theorem d_MD_number_41 : decode c_MD_number 41 = .ok (.iinc 2 1, 3) := by decide +kernel
theorem d_MD_number_44 : decode c_MD_number 44 = .ok (.aload_n 0, 1) := by decide +kernel
theorem d_MD_number_45 : decode c_MD_number 45 = .ok (.dup, 1) := by decide +kernel
theorem d_MD_number_46 : decode c_MD_number 46 = .ok (.getfield 95, 3) := by decide +kernel
theorem d_MD_number_49 : decode c_MD_number 49 = .ok (.iconst 1, 1) := by decide +kernel
theorem d_MD_number_50 : decode c_MD_number 50 = .ok (.iadd, 1) := by decide +kernel
theorem d_MD_number_51 : decode c_MD_number 51 = .ok (.putfield 95, 3) := by decide +kernel
theorem d_MD_number_54 : decode c_MD_number 54 = .ok (.goto (-50), 3) := by decide +kernel
theorem d_MD_number_57 : decode c_MD_number 57 = .ok (.aload_n 0, 1) := by decide +kernel
theorem d_MD_number_58 : decode c_MD_number 58 = .ok (.aload_n 0, 1) := by decide +kernel
theorem d_MD_number_59 : decode c_MD_number 59 = .ok (.getfield 177, 3) := by decide +kernel
theorem d_MD_number_62 : decode c_MD_number 62 = .ok (.ifCond .eq 23, 3) := by decide +kernel
theorem d_MD_number_65 : decode c_MD_number 65 = .ok (.iload_n 2, 1) := by decide +kernel
theorem d_MD_number_66 : decode c_MD_number 66 = .ok (.ifCond .le 19, 3) := by decide +kernel
theorem d_MD_number_69 : decode c_MD_number 69 = .ok (.iload_n 2, 1) := by decide +kernel
theorem d_MD_number_70 : decode c_MD_number 70 = .ok (.bipush 6, 2) := by decide +kernel
theorem d_MD_number_72 : decode c_MD_number 72 = .ok (.if_icmp .ge 13, 3) := by decide +kernel
theorem d_MD_number_75 : decode c_MD_number 75 = .ok (.iload_n 1, 1) := by decide +kernel
theorem d_MD_number_76 : decode c_MD_number 76 = .ok (.ldc 187, 2) := by decide +kernel
theorem d_MD_number_78 : decode c_MD_number 78 = .ok (.if_icmp .ge 7, 3) := by decide +kernel
theorem d_MD_number_81 : decode c_MD_number 81 = .ok (.iconst 1, 1) := by decide +kernel
theorem d_MD_number_82 : decode c_MD_number 82 = .ok (.goto 4, 3) := by decide +kernel
theorem d_MD_number_85 : decode c_MD_number 85 = .ok (.iconst 0, 1) := by decide +kernel
theorem d_MD_number_86 : decode c_MD_number 86 = .ok (.putfield 177, 3) := by decide +kernel
theorem d_MD_number_89 : decode c_MD_number 89 = .ok (.iload_n 1, 1) := by decide +kernel
theorem d_MD_number_90 : decode c_MD_number 90 = .ok (.ireturn, 1) := by decide +kernel
theorem d_MD_value_0 : decode c_MD_value 0 = .ok (.aload_n 0, 1) := by decide +kernel
theorem d_MD_value_1 : decode c_MD_value 1 = .ok (.invokevirtual 184, 3) := by decide +kernel
theorem d_MD_value_4 : decode c_MD_value 4 = .ok (.aload_n 0, 1) := by decide +kernel
theorem d_MD_value_5 : decode c_MD_value 5 = .ok (.iconst 0, 1) := by decide +kernel
theorem d_MD_value_6 : decode c_MD_value 6 = .ok (.putfield 188, 3) := by decide +kernel
theorem d_MD_value_9 : decode c_MD_value 9 = .ok (.aload_n 0, 1) := by decide +kernel
theorem d_MD_value_10 : decode c_MD_value 10 = .ok (.iconst 0, 1) := by decide +kernel
theorem d_MD_value_11 : decode c_MD_value 11 = .ok (.putfield 191, 3) := by decide +kernel
theorem d_MD_value_14 : decode c_MD_value 14 = .ok (.aload_n 0, 1) := by decide +kernel
theorem d_MD_value_15 : decode c_MD_value 15 = .ok (.getfield 177, 3) := by decide +kernel
theorem d_MD_value_18 : decode c_MD_value 18 = .ok (.ifCond .ne 4, 3) := by decide +kernel
theorem d_MD_value_21 : decode c_MD_value 21 = .ok (.return_, 1) := by decide +kernel
theorem d_MD_value_22 : decode c_MD_value 22 = .ok (.iload_n 1, 1) := by decide +kernel
theorem d_MD_value_23 : decode c_MD_value 23 = .ok (.ifCond .ne 17, 3) := by decide +kernel
theorem d_MD_value_26 : decode c_MD_value 26 = .ok (.aload_n 0, 1) := by decide +kernel
theorem d_MD_value_27 : decode c_MD_value 27 = .ok (.aload_n 0, 1) := by decide +kernel
theorem d_MD_value_28 : decode c_MD_value 28 = .ok (.getfield 95, 3) := by decide +kernel
theorem d_MD_value_31 : decode c_MD_value 31 = .ok (.invokevirtual 98, 3) := by decide +kernel
theorem d_MD_value_34 : decode c_MD_value 34 = .ok (.invokestatic 106, 3) := by decide +kernel
theorem d_MD_value_37 : decode c_MD_value 37 = .ok (.ifCond .eq 12, 3) := by decide +kernel
theorem d_MD_value_40 : decode c_MD_value 40 = .ok (.aload_n 0, 1) := by decide +kernel
theorem d_MD_value_41 : decode c_MD_value 41 = .ok (.aload_n 0, 1) := by decide +kernel
theorem d_MD_value_42 : decode c_MD_value 42 = .ok (.invokevirtual 194, 3) := by decide +kernel
theorem d_MD_value_45 : decode c_MD_value 45 = .ok (.putfield 191, 3) := by decide +kernel
theorem d_MD_value_48 : decode c_MD_value 48 = .ok (.return_, 1) := by decide +kernel
theorem d_MD_value_49 : decode c_MD_value 49 = .ok (.aload_n 0, 1) := by decide +kernel
theorem d_MD_value_50 : decode c_MD_value 50 = .ok (.aload_n 0, 1) := by decide +kernel
theorem d_MD_value_51 : decode c_MD_value 51 = .ok (.getfield 95, 3) := by decide +kernel
theorem d_MD_value_54 : decode c_MD_value 54 = .ok (.putfield 198, 3) := by decide +kernel
theorem d_MD_value_57 : decode c_MD_value 57 = .ok (.aload_n 0, 1) := by decide +kernel
theorem d_MD_value_58 : decode c_MD_value 58 = .ok (.aload_n 0, 1) := by decide +kernel
theorem d_MD_value_59 : decode c_MD_value 59 = .ok (.aload_n 0, 1) := by decide +kernel
theorem d_MD_value_60 : decode c_MD_value 60 = .ok (.getfield 95, 3) := by decide +kernel
theorem d_MD_value_63 : decode c_MD_value 63 = .ok (.invokevirtual 201, 3) := by decide +kernel
theorem d_MD_value_66 : decode c_MD_value 66 = .ok (.putfield 188, 3) := by decide +kernel
theorem d_MD_value_69 : decode c_MD_value 69 = .ok (.aload_n 0, 1) := by decide +kernel
theorem d_MD_value_70 : decode c_MD_value 70 = .ok (.aload_n 0, 1) := by decide +kernel
theorem d_MD_value_71 : decode c_MD_value 71 = .ok (.getfield 188, 3) := by decide +kernel
theorem d_MD_value_74 : decode c_MD_value 74 = .ok (.ifCond .le 7, 3) := by decide +kernel
theorem d_MD_value_77 : decode c_MD_value 77 = .ok (.iconst 1, 1) := by decide +kernel
theorem d_MD_value_78 : decode c_MD_value 78 = .ok (.goto 4, 3) := by decide +kernel
theorem d_MD_value_81 : decode c_MD_value 81 = .ok (.iconst 0, 1) := by decide +kernel
theorem d_MD_value_82 : decode c_MD_value 82 = .ok (.putfield 177, 3) := by decide +kernel
theorem d_MD_value_85 : decode c_MD_value 85 = .ok (.aload_n 0, 1) := by decide +kernel
theorem d_MD_value_86 : decode c_MD_value 86 = .ok (.dup, 1) := by decide +kernel
theorem d_MD_value_87 : decode c_MD_value 87 = .ok (.getfield 95, 3) := by decide +kernel
theorem d_MD_value_90 : decode c_MD_value 90 = .ok (.aload_n 0, 1) := by decide +kernel
theorem d_MD_value_91 : decode c_MD_value 91 = .ok (.getfield 188, 3) := by decide +kernel
theorem d_MD_value_94 : decode c_MD_value 94 = .ok (.iadd, 1) := by decide +kernel
theorem d_MD_value_95 : decode c_MD_value 95 = .ok (.putfield 95, 3) := by decide +kernel
theorem d_MD_value_98 : decode c_MD_value 98 = .ok (.aload_n 0, 1) := by decide +kernel
theorem d_MD_value_99 : decode c_MD_value 99 = .ok (.getfield 177, 3) := by decide +kernel
theorem d_MD_value_102 : decode c_MD_value 102 = .ok (.ifCond .eq 34, 3) := by decide +kernel
theorem d_MD_value_105 : decode c_MD_value 105 = .ok (.aload_n 0, 1) := by decide +kernel
theorem d_MD_value_106 : decode c_MD_value 106 = .ok (.aload_n 0, 1) := by decide +kernel
theorem d_MD_value_107 : decode c_MD_value 107 = .ok (.getfield 95, 3) := by decide +kernel
theorem d_MD_value_110 : decode c_MD_value 110 = .ok (.invokevirtual 98, 3) := by decide +kernel
theorem d_MD_value_113 : decode c_MD_value 113 = .ok (.bipush 43, 2) := by decide +kernel
theorem d_MD_value_115 : decode c_MD_value 115 = .ok (.if_icmp .ne 21, 3) := by decide +kernel
theorem d_MD_value_118 : decode c_MD_value 118 = .ok (.aload_n 0, 1) := by decide +kernel
theorem d_MD_value_119 : decode c_MD_value 119 = .ok (.dup, 1) := by decide +kernel
theorem d_MD_value_120 : decode c_MD_value 120 = .ok (.getfield 95, 3) := by decide +kernel
theorem d_MD_value_123 : decode c_MD_value 123 = .ok (.iconst 1, 1) := by decide +kernel
theorem d_MD_value_124 : decode c_MD_value 124 = .ok (.iadd, 1) := by decide +kernel
theorem d_MD_value_125 : decode c_MD_value 125 = .ok (.putfield 95, 3) := by decide +kernel
theorem d_MD_value_128 : decode c_MD_value 128 = .ok (.aload_n 0, 1) := by decide +kernel
theorem d_MD_value_129 : decode c_MD_value 129 = .ok (.aload_n 0, 1) := by decide +kernel
theorem d_MD_value_130 : decode c_MD_value 130 = .ok (.invokevirtual 194, 3) := by decide +kernel
theorem d_MD_value_133 : decode c_MD_value 133 = .ok (.putfield 191, 3) := by decide +kernel
theorem d_MD_value_136 : decode c_MD_value 136 = .ok (.return_, 1) := by decide +kernel
theorem d_MD_valued_0 : decode c_MD_valued 0 = .ok (.aload_n 0, 1) := by decide +kernel
theorem d_MD_valued_1 : decode c_MD_valued 1 = .ok (.getfield 188, 3) := by decide +kernel
theorem d_MD_valued_4 : decode c_MD_valued 4 = .ok (.ifCond .ne 8, 3) := by decide +kernel
theorem d_MD_valued_7 : decode c_MD_valued 7 = .ok (.aload_n 0, 1) := by decide +kernel
theorem d_MD_valued_8 : decode c_MD_valued 8 = .ok (.getfield 191, 3) := by decide +kernel
theorem d_MD_valued_11 : decode c_MD_valued 11 = .ok (.ireturn, 1) := by decide +kernel
theorem d_MD_valued_12 : decode c_MD_valued 12 = .ok (.aload_n 0, 1) := by decide +kernel
theorem d_MD_valued_13 : decode c_MD_valued 13 = .ok (.aload_n 0, 1) := by decide +kernel
theorem d_MD_valued_14 : decode c_MD_valued 14 = .ok (.getfield 198, 3) := by decide +kernel
theorem d_MD_valued_17 : decode c_MD_valued 17 = .ok (.aload_n 0, 1) := by decide +kernel
theorem d_MD_valued_18 : decode c_MD_valued 18 = .ok (.getfield 188, 3) := by decide +kernel
theorem d_MD_valued_21 : decode c_MD_valued 21 = .ok (.invokevirtual 204, 3) := by decide +kernel
theorem d_MD_valued_24 : decode c_MD_valued 24 = .ok (.istore_n 1, 1) := by decide +kernel
theorem d_MD_valued_25 : decode c_MD_valued 25 = .ok (.iload_n 1, 1) := by decide +kernel
theorem d_MD_valued_26 : decode c_MD_valued 26 = .ok (.ifCond .ge 27, 3) := by decide +kernel
theorem d_MD_valued_29 : decode c_MD_valued 29 = .ok (.aload_n 0, 1) := by decide +kernel
theorem d_MD_valued_30 : decode c_MD_valued 30 = .ok (.aload_n 0, 1) := by decide +kernel
theorem d_MD_valued_31 : decode c_MD_valued 31 = .ok (.getfield 208, 3) := by decide +kernel
theorem d_MD_valued_34 : decode c_MD_valued 34 = .ok (.ifCond .ne 10, 3) := by decide +kernel
theorem d_MD_valued_37 : decode c_MD_valued 37 = .ok (.aload_n 0, 1) := by decide +kernel
theorem d_MD_valued_38 : decode c_MD_valued 38 = .ok (.getfield 211, 3) := by decide +kernel
theorem d_MD_valued_41 : decode c_MD_valued 41 = .ok (.goto 7, 3) := by decide +kernel
theorem d_MD_valued_44 : decode c_MD_valued 44 = .ok (.aload_n 0, 1) := by decide +kernel
theorem d_MD_valued_45 : decode c_MD_valued 45 = .ok (.getfield 208, 3) := by decide +kernel
theorem d_MD_valued_48 : decode c_MD_valued 48 = .ok (.putfield 208, 3) := by decide +kernel
theorem d_MD_valued_51 : decode c_MD_valued 51 = .ok (.iconst 0, 1) := by decide +kernel
theorem d_MD_valued_52 : decode c_MD_valued 52 = .ok (.ireturn, 1) := by decide +kernel
theorem d_MD_valued_53 : decode c_MD_valued 53 = .ok (.aload_n 0, 1) := by decide +kernel
theorem d_MD_valued_54 : decode c_MD_valued 54 = .ok (.getfield 86, 3) := by decide +kernel
theorem d_MD_valued_57 : decode c_MD_valued 57 = .ok (.iload_n 1, 1) := by decide +kernel
theorem d_MD_valued_58 : decode c_MD_valued 58 = .ok (.iaload, 1) := by decide +kernel
theorem d_MD_valued_59 : decode c_MD_valued 59 = .ok (.aload_n 0, 1) := by decide +kernel
theorem d_MD_valued_60 : decode c_MD_valued 60 = .ok (.getfield 191, 3) := by decide +kernel
theorem d_MD_valued_63 : decode c_MD_valued 63 = .ok (.iadd, 1) := by decide +kernel
theorem d_MD_valued_64 : decode c_MD_valued 64 = .ok (.ldc 187, 2) := by decide +kernel
theorem d_MD_valued_66 : decode c_MD_valued 66 = .ok (.irem, 1) := by decide +kernel
theorem d_MD_valued_67 : decode c_MD_valued 67 = .ok (.ireturn, 1) := by decide +kernel
theorem d_MD_put_0 : decode c_MD_put 0 = .ok (.iload_n 2, 1) := by decide +kernel
theorem d_MD_put_1 : decode c_MD_put 1 = .ok (.ifCond .eq 13, 3) := by decide +kernel
theorem d_MD_put_4 : decode c_MD_put 4 = .ok (.aload_n 0, 1) := by decide +kernel
theorem d_MD_put_5 : decode c_MD_put 5 = .ok (.getfield 89, 3) := by decide +kernel
theorem d_MD_put_8 : decode c_MD_put 8 = .ok (.aload_n 0, 1) := by decide +kernel
theorem d_MD_put_9 : decode c_MD_put 9 = .ok (.getfield 214, 3) := by decide +kernel
theorem d_MD_put_12 : decode c_MD_put 12 = .ok (.iload_n 1, 1) := by decide +kernel
theorem d_MD_put_13 : decode c_MD_put 13 = .ok (.iastore, 1) := by decide +kernel
theorem d_MD_put_14 : decode c_MD_put 14 = .ok (.aload_n 0, 1) := by decide +kernel
theorem d_MD_put_15 : decode c_MD_put 15 = .ok (.dup, 1) := by decide +kernel
theorem d_MD_put_16 : decode c_MD_put 16 = .ok (.getfield 214, 3) := by decide +kernel
theorem d_MD_put_19 : decode c_MD_put 19 = .ok (.iconst 1, 1) := by decide +kernel
theorem d_MD_put_20 : decode c_MD_put 20 = .ok (.iadd, 1) := by decide +kernel
theorem d_MD_put_21 : decode c_MD_put 21 = .ok (.putfield 214, 3) := by decide +kernel
theorem d_MD_put_24 : decode c_MD_put 24 = .ok (.return_, 1) := by decide +kernel
theorem d_MD_oneLine_0 : decode c_MD_oneLine 0 = .ok (.aload_n 0, 1) := by decide +kernel
theorem d_MD_oneLine_1 : decode c_MD_oneLine 1 = .ok (.iconst 1, 1) := by decide +kernel
theorem d_MD_oneLine_2 : decode c_MD_oneLine 2 = .ok (.putfield 177, 3) := by decide +kernel
theorem d_MD_oneLine_5 : decode c_MD_oneLine 5 = .ok (.aload_n 0, 1) := by decide +kernel
theorem d_MD_oneLine_6 : decode c_MD_oneLine 6 = .ok (.getfield 95, 3) := by decide +kernel
theorem d_MD_oneLine_9 : decode c_MD_oneLine 9 = .ok (.istore_n 3, 1) := by decide +kernel
theorem d_MD_oneLine_10 : decode c_MD_oneLine 10 = .ok (.iload_n 3, 1) := by decide +kernel
theorem d_MD_oneLine_11 : decode c_MD_oneLine 11 = .ok (.istore 4, 2) := by decide +kernel
theorem d_MD_oneLine_13 : decode c_MD_oneLine 13 = .ok (.iload 4, 2) := by decide +kernel
theorem d_MD_oneLine_15 : decode c_MD_oneLine 15 = .ok (.aload_n 0, 1) := by decide +kernel
theorem d_MD_oneLine_16 : decode c_MD_oneLine 16 = .ok (.getfield 92, 3) := by decide +kernel
theorem d_MD_oneLine_19 : decode c_MD_oneLine 19 = .ok (.if_icmp .ge 69, 3) := by decide +kernel
theorem d_MD_oneLine_22 : decode c_MD_oneLine 22 = .ok (.aload_n 0, 1) := by decide +kernel
theorem d_MD_oneLine_23 : decode c_MD_oneLine 23 = .ok (.getfield 11, 3) := by decide +kernel
theorem d_MD_oneLine_26 : decode c_MD_oneLine 26 = .ok (.iload 4, 2) := by decide +kernel
theorem d_MD_oneLine_28 : decode c_MD_oneLine 28 = .ok (.baload, 1) := by decide +kernel
theorem d_MD_oneLine_29 : decode c_MD_oneLine 29 = .ok (.bipush 10, 2) := by decide +kernel
theorem d_MD_oneLine_31 : decode c_MD_oneLine 31 = .ok (.if_icmp .eq 57, 3) := by decide +kernel
theorem d_MD_oneLine_34 : decode c_MD_oneLine 34 = .ok (.aload_n 0, 1) := by decide +kernel
theorem d_MD_oneLine_35 : decode c_MD_oneLine 35 = .ok (.aload_n 0, 1) := by decide +kernel
theorem d_MD_oneLine_36 : decode c_MD_oneLine 36 = .ok (.getfield 177, 3) := by decide +kernel
theorem d_MD_oneLine_39 : decode c_MD_oneLine 39 = .ok (.ifCond .eq 39, 3) := by decide +kernel
theorem d_MD_oneLine_42 : decode c_MD_oneLine 42 = .ok (.aload_n 0, 1) := by decide +kernel
theorem d_MD_oneLine_43 : decode c_MD_oneLine 43 = .ok (.getfield 11, 3) := by decide +kernel
theorem d_MD_oneLine_46 : decode c_MD_oneLine 46 = .ok (.iload 4, 2) := by decide +kernel
theorem d_MD_oneLine_48 : decode c_MD_oneLine 48 = .ok (.baload, 1) := by decide +kernel
theorem d_MD_oneLine_49 : decode c_MD_oneLine 49 = .ok (.sipush 255, 3) := by decide +kernel
theorem d_MD_oneLine_52 : decode c_MD_oneLine 52 = .ok (.iand, 1) := by decide +kernel
theorem d_MD_oneLine_53 : decode c_MD_oneLine 53 = .ok (.bipush 32, 2) := by decide +kernel
theorem d_MD_oneLine_55 : decode c_MD_oneLine 55 = .ok (.if_icmp .lt 23, 3) := by decide +kernel
theorem d_MD_oneLine_58 : decode c_MD_oneLine 58 = .ok (.aload_n 0, 1) := by decide +kernel
theorem d_MD_oneLine_59 : decode c_MD_oneLine 59 = .ok (.getfield 11, 3) := by decide +kernel
theorem d_MD_oneLine_62 : decode c_MD_oneLine 62 = .ok (.iload 4, 2) := by decide +kernel
theorem d_MD_oneLine_64 : decode c_MD_oneLine 64 = .ok (.baload, 1) := by decide +kernel
theorem d_MD_oneLine_65 : decode c_MD_oneLine 65 = .ok (.sipush 255, 3) := by decide +kernel
theorem d_MD_oneLine_68 : decode c_MD_oneLine 68 = .ok (.iand, 1) := by decide +kernel
theorem d_MD_oneLine_69 : decode c_MD_oneLine 69 = .ok (.bipush 127, 2) := by decide +kernel
theorem d_MD_oneLine_71 : decode c_MD_oneLine 71 = .ok (.if_icmp .ge 7, 3) := by decide +kernel
theorem d_MD_oneLine_74 : decode c_MD_oneLine 74 = .ok (.iconst 1, 1) := by decide +kernel
theorem d_MD_oneLine_75 : decode c_MD_oneLine 75 = .ok (.goto 4, 3) := by decide +kernel
theorem d_MD_oneLine_78 : decode c_MD_oneLine 78 = .ok (.iconst 0, 1) := by decide +kernel
theorem d_MD_oneLine_79 : decode c_MD_oneLine 79 = .ok (.putfield 177, 3) := by decide +kernel
theorem d_MD_oneLine_82 : decode c_MD_oneLine 82 = .ok (.iinc 4 1, 3) := by decide +kernel
theorem d_MD_oneLine_85 : decode c_MD_oneLine 85 = .ok (.goto (-72), 3) := by decide +kernel
theorem d_MD_oneLine_88 : decode c_MD_oneLine 88 = .ok (.aload_n 0, 1) := by decide +kernel
theorem d_MD_oneLine_89 : decode c_MD_oneLine 89 = .ok (.invokevirtual 181, 3) := by decide +kernel
theorem d_MD_oneLine_92 : decode c_MD_oneLine 92 = .ok (.aload_n 0, 1) := by decide +kernel
theorem d_MD_oneLine_93 : decode c_MD_oneLine 93 = .ok (.aload_n 0, 1) := by decide +kernel
theorem d_MD_oneLine_94 : decode c_MD_oneLine 94 = .ok (.getfield 95, 3) := by decide +kernel
theorem d_MD_oneLine_97 : decode c_MD_oneLine 97 = .ok (.invokevirtual 201, 3) := by decide +kernel
theorem d_MD_oneLine_100 : decode c_MD_oneLine 100 = .ok (.istore 4, 2) := by decide +kernel
theorem d_MD_oneLine_102 : decode c_MD_oneLine 102 = .ok (.aload_n 0, 1) := by decide +kernel
theorem d_MD_oneLine_103 : decode c_MD_oneLine 103 = .ok (.getfield 95, 3) := by decide +kernel
theorem d_MD_oneLine_106 : decode c_MD_oneLine 106 = .ok (.istore 5, 2) := by decide +kernel
theorem d_MD_oneLine_108 : decode c_MD_oneLine 108 = .ok (.iload 4, 2) := by decide +kernel
theorem d_MD_oneLine_110 : decode c_MD_oneLine 110 = .ok (.ifCond .le 23, 3) := by decide +kernel
theorem d_MD_oneLine_113 : decode c_MD_oneLine 113 = .ok (.aload_n 0, 1) := by decide +kernel
theorem d_MD_oneLine_114 : decode c_MD_oneLine 114 = .ok (.aload_n 0, 1) := by decide +kernel
theorem d_MD_oneLine_115 : decode c_MD_oneLine 115 = .ok (.getfield 95, 3) := by decide +kernel
theorem d_MD_oneLine_118 : decode c_MD_oneLine 118 = .ok (.iload 4, 2) := by decide +kernel
theorem d_MD_oneLine_120 : decode c_MD_oneLine 120 = .ok (.iadd, 1) := by decide +kernel
theorem d_MD_oneLine_121 : decode c_MD_oneLine 121 = .ok (.invokevirtual 98, 3) := by decide +kernel
theorem d_MD_oneLine_124 : decode c_MD_oneLine 124 = .ok (.bipush 58, 2) := by decide +kernel
theorem d_MD_oneLine_126 : decode c_MD_oneLine 126 = .ok (.if_icmp .ne 7, 3) := by decide +kernel
theorem d_MD_oneLine_129 : decode c_MD_oneLine 129 = .ok (.iconst 1, 1) := by decide +kernel
theorem d_MD_oneLine_130 : decode c_MD_oneLine 130 = .ok (.goto 4, 3) := by decide +kernel
theorem d_MD_oneLine_133 : decode c_MD_oneLine 133 = .ok (.iconst 0, 1) := by decide +kernel
theorem d_MD_oneLine_134 : decode c_MD_oneLine 134 = .ok (.istore 6, 2) := by decide +kernel
theorem d_MD_oneLine_136 : decode c_MD_oneLine 136 = .ok (.iload 6, 2) := by decide +kernel
theorem d_MD_oneLine_138 : decode c_MD_oneLine 138 = .ok (.ifCond .eq 16, 3) := by decide +kernel
theorem d_MD_oneLine_141 : decode c_MD_oneLine 141 = .ok (.aload_n 0, 1) := by decide +kernel
theorem d_MD_oneLine_142 : decode c_MD_oneLine 142 = .ok (.dup, 1) := by decide +kernel
theorem d_MD_oneLine_143 : decode c_MD_oneLine 143 = .ok (.getfield 95, 3) := by decide +kernel
theorem d_MD_oneLine_146 : decode c_MD_oneLine 146 = .ok (.iload 4, 2) := by decide +kernel
theorem d_MD_oneLine_148 : decode c_MD_oneLine 148 = .ok (.iconst 1, 1) := by decide +kernel
theorem d_MD_oneLine_149 : decode c_MD_oneLine 149 = .ok (.iadd, 1) := by decide +kernel
theorem d_MD_oneLine_150 : decode c_MD_oneLine 150 = .ok (.iadd, 1) := by decide +kernel
theorem d_MD_oneLine_151 : decode c_MD_oneLine 151 = .ok (.putfield 95, 3) := by decide +kernel
theorem d_MD_oneLine_154 : decode c_MD_oneLine 154 = .ok (.aload_n 0, 1) := by decide +kernel
theorem d_MD_oneLine_155 : decode c_MD_oneLine 155 = .ok (.invokevirtual 181, 3) := by decide +kernel
theorem d_MD_oneLine_158 : decode c_MD_oneLine 158 = .ok (.iconst (-1), 1) := by decide +kernel
theorem d_MD_oneLine_159 : decode c_MD_oneLine 159 = .ok (.istore 7, 2) := by decide +kernel
theorem d_MD_oneLine_161 : decode c_MD_oneLine 161 = .ok (.iconst 0, 1) := by decide +kernel
theorem d_MD_oneLine_162 : decode c_MD_oneLine 162 = .ok (.istore 8, 2) := by decide +kernel
theorem d_MD_oneLine_164 : decode c_MD_oneLine 164 = .ok (.iconst 0, 1) := by decide +kernel
theorem d_MD_oneLine_165 : decode c_MD_oneLine 165 = .ok (.istore 9, 2) := by decide +kernel
theorem d_MD_oneLine_167 : decode c_MD_oneLine 167 = .ok (.aload_n 0, 1) := by decide +kernel
theorem d_MD_oneLine_168 : decode c_MD_oneLine 168 = .ok (.iconst 0, 1) := by decide +kernel
theorem d_MD_oneLine_169 : decode c_MD_oneLine 169 = .ok (.putfield 188, 3) := by decide +kernel
theorem d_MD_oneLine_172 : decode c_MD_oneLine 172 = .ok (.aload_n 0, 1) := by decide +kernel
theorem d_MD_oneLine_173 : decode c_MD_oneLine 173 = .ok (.iconst 0, 1) := by decide +kernel
theorem d_MD_oneLine_174 : decode c_MD_oneLine 174 = .ok (.putfield 191, 3) := by decide +kernel
theorem d_MD_oneLine_177 : decode c_MD_oneLine 177 = .ok (.aload_n 0, 1) := by decide +kernel
theorem d_MD_oneLine_178 : decode c_MD_oneLine 178 = .ok (.invokevirtual 217, 3) := by decide +kernel
theorem d_MD_oneLine_181 : decode c_MD_oneLine 181 = .ok (.ifCond .ne 153, 3) := by decide +kernel
theorem d_MD_oneLine_184 : decode c_MD_oneLine 184 = .ok (.aload_n 0, 1) := by decide +kernel
theorem d_MD_oneLine_185 : decode c_MD_oneLine 185 = .ok (.invokevirtual 221, 3) := by decide +kernel
theorem d_MD_oneLine_188 : decode c_MD_oneLine 188 = .ok (.istore 7, 2) := by decide +kernel
theorem d_MD_oneLine_190 : decode c_MD_oneLine 190 = .ok (.aload_n 0, 1) := by decide +kernel
theorem d_MD_oneLine_191 : decode c_MD_oneLine 191 = .ok (.aload_n 0, 1) := by decide +kernel
theorem d_MD_oneLine_192 : decode c_MD_oneLine 192 = .ok (.getfield 177, 3) := by decide +kernel
theorem d_MD_oneLine_195 : decode c_MD_oneLine 195 = .ok (.ifCond .eq 12, 3) := by decide +kernel
theorem d_MD_oneLine_198 : decode c_MD_oneLine 198 = .ok (.iload 7, 2) := by decide +kernel
theorem d_MD_oneLine_200 : decode c_MD_oneLine 200 = .ok (.ifCond .lt 7, 3) := by decide +kernel
theorem d_MD_oneLine_203 : decode c_MD_oneLine 203 = .ok (.iconst 1, 1) := by decide +kernel
theorem d_MD_oneLine_204 : decode c_MD_oneLine 204 = .ok (.goto 4, 3) := by decide +kernel
theorem d_MD_oneLine_207 : decode c_MD_oneLine 207 = .ok (.iconst 0, 1) := by decide +kernel
theorem d_MD_oneLine_208 : decode c_MD_oneLine 208 = .ok (.putfield 177, 3) := by decide +kernel
theorem d_MD_oneLine_211 : decode c_MD_oneLine 211 = .ok (.aload_n 0, 1) := by decide +kernel
theorem d_MD_oneLine_212 : decode c_MD_oneLine 212 = .ok (.getfield 177, 3) := by decide +kernel
theorem d_MD_oneLine_215 : decode c_MD_oneLine 215 = .ok (.ifCond .eq 69, 3) := by decide +kernel
theorem d_MD_oneLine_218 : decode c_MD_oneLine 218 = .ok (.iload 7, 2) := by decide +kernel
theorem d_MD_oneLine_220 : decode c_MD_oneLine 220 = .ok (.bipush 25, 2) := by decide +kernel
theorem d_MD_oneLine_222 : decode c_MD_oneLine 222 = .ok (.if_icmp .ge 62, 3) := by decide +kernel
theorem d_MD_oneLine_225 : decode c_MD_oneLine 225 = .ok (.aload_n 0, 1) := by decide +kernel
theorem d_MD_oneLine_226 : decode c_MD_oneLine 226 = .ok (.getfield 77, 3) := by decide +kernel
theorem d_MD_oneLine_229 : decode c_MD_oneLine 229 = .ok (.iload 7, 2) := by decide +kernel
theorem d_MD_oneLine_231 : decode c_MD_oneLine 231 = .ok (.iaload, 1) := by decide +kernel
theorem d_MD_oneLine_232 : decode c_MD_oneLine 232 = .ok (.iconst 1, 1) := by decide +kernel
theorem d_MD_oneLine_233 : decode c_MD_oneLine 233 = .ok (.iand, 1) := by decide +kernel
theorem d_MD_oneLine_234 : decode c_MD_oneLine 234 = .ok (.iconst 1, 1) := by decide +kernel
theorem d_MD_oneLine_235 : decode c_MD_oneLine 235 = .ok (.if_icmp .ne 9, 3) := by decide +kernel
theorem d_MD_oneLine_238 : decode c_MD_oneLine 238 = .ok (.aload_n 0, 1) := by decide +kernel
theorem d_MD_oneLine_239 : decode c_MD_oneLine 239 = .ok (.invokevirtual 224, 3) := by decide +kernel
theorem d_MD_oneLine_242 : decode c_MD_oneLine 242 = .ok (.istore 8, 2) := by decide +kernel
theorem d_MD_oneLine_244 : decode c_MD_oneLine 244 = .ok (.aload_n 0, 1) := by decide +kernel
theorem d_MD_oneLine_245 : decode c_MD_oneLine 245 = .ok (.getfield 77, 3) := by decide +kernel
theorem d_MD_oneLine_248 : decode c_MD_oneLine 248 = .ok (.iload 7, 2) := by decide +kernel
theorem d_MD_oneLine_250 : decode c_MD_oneLine 250 = .ok (.iaload, 1) := by decide +kernel
theorem d_MD_oneLine_251 : decode c_MD_oneLine 251 = .ok (.iconst 2, 1) := by decide +kernel
theorem d_MD_oneLine_252 : decode c_MD_oneLine 252 = .ok (.iand, 1) := by decide +kernel
theorem d_MD_oneLine_253 : decode c_MD_oneLine 253 = .ok (.iconst 2, 1) := by decide +kernel
theorem d_MD_oneLine_254 : decode c_MD_oneLine 254 = .ok (.if_icmp .ne 9, 3) := by decide +kernel
theorem d_MD_oneLine_257 : decode c_MD_oneLine 257 = .ok (.aload_n 0, 1) := by decide +kernel
theorem d_MD_oneLine_258 : decode c_MD_oneLine 258 = .ok (.invokevirtual 224, 3) := by decide +kernel
theorem d_MD_oneLine_261 : decode c_MD_oneLine 261 = .ok (.istore 9, 2) := by decide +kernel
theorem d_MD_oneLine_263 : decode c_MD_oneLine 263 = .ok (.aload_n 0, 1) := by decide +kernel
theorem d_MD_oneLine_264 : decode c_MD_oneLine 264 = .ok (.getfield 77, 3) := by decide +kernel
theorem d_MD_oneLine_267 : decode c_MD_oneLine 267 = .ok (.iload 7, 2) := by decide +kernel
theorem d_MD_oneLine_269 : decode c_MD_oneLine 269 = .ok (.iaload, 1) := by decide +kernel
theorem d_MD_oneLine_270 : decode c_MD_oneLine 270 = .ok (.iconst 4, 1) := by decide +kernel
theorem d_MD_oneLine_271 : decode c_MD_oneLine 271 = .ok (.iand, 1) := by decide +kernel
theorem d_MD_oneLine_272 : decode c_MD_oneLine 272 = .ok (.iconst 4, 1) := by decide +kernel
theorem d_MD_oneLine_273 : decode c_MD_oneLine 273 = .ok (.if_icmp .ne 34, 3) := by decide +kernel
theorem d_MD_oneLine_276 : decode c_MD_oneLine 276 = .ok (.aload_n 0, 1) := by decide +kernel
theorem d_MD_oneLine_277 : decode c_MD_oneLine 277 = .ok (.iconst 0, 1) := by decide +kernel
theorem d_MD_oneLine_278 : decode c_MD_oneLine 278 = .ok (.invokevirtual 226, 3) := by decide +kernel
theorem d_MD_oneLine_281 : decode c_MD_oneLine 281 = .ok (.goto 26, 3) := by decide +kernel
theorem d_MD_oneLine_284 : decode c_MD_oneLine 284 = .ok (.aload_n 0, 1) := by decide +kernel
theorem d_MD_oneLine_285 : decode c_MD_oneLine 285 = .ok (.getfield 177, 3) := by decide +kernel
theorem d_MD_oneLine_288 : decode c_MD_oneLine 288 = .ok (.ifCond .eq 19, 3) := by decide +kernel
theorem d_MD_oneLine_291 : decode c_MD_oneLine 291 = .ok (.aload_n 0, 1) := by decide +kernel
theorem d_MD_oneLine_292 : decode c_MD_oneLine 292 = .ok (.iload 7, 2) := by decide +kernel
theorem d_MD_oneLine_294 : decode c_MD_oneLine 294 = .ok (.bipush 25, 2) := by decide +kernel
theorem d_MD_oneLine_296 : decode c_MD_oneLine 296 = .ok (.if_icmp .le 7, 3) := by decide +kernel
theorem d_MD_oneLine_299 : decode c_MD_oneLine 299 = .ok (.iconst 1, 1) := by decide +kernel
theorem d_MD_oneLine_300 : decode c_MD_oneLine 300 = .ok (.goto 4, 3) := by decide +kernel
theorem d_MD_oneLine_303 : decode c_MD_oneLine 303 = .ok (.iconst 0, 1) := by decide +kernel
theorem d_MD_oneLine_304 : decode c_MD_oneLine 304 = .ok (.invokevirtual 226, 3) := by decide +kernel
theorem d_MD_oneLine_307 : decode c_MD_oneLine 307 = .ok (.aload_n 0, 1) := by decide +kernel
theorem d_MD_oneLine_308 : decode c_MD_oneLine 308 = .ok (.invokevirtual 181, 3) := by decide +kernel
theorem d_MD_oneLine_311 : decode c_MD_oneLine 311 = .ok (.aload_n 0, 1) := by decide +kernel
theorem d_MD_oneLine_312 : decode c_MD_oneLine 312 = .ok (.aload_n 0, 1) := by decide +kernel
theorem d_MD_oneLine_313 : decode c_MD_oneLine 313 = .ok (.getfield 177, 3) := by decide +kernel
theorem d_MD_oneLine_316 : decode c_MD_oneLine 316 = .ok (.ifCond .eq 14, 3) := by decide +kernel
theorem d_MD_oneLine_319 : decode c_MD_oneLine 319 = .ok (.aload_n 0, 1) := by decide +kernel
theorem d_MD_oneLine_320 : decode c_MD_oneLine 320 = .ok (.invokevirtual 217, 3) := by decide +kernel
theorem d_MD_oneLine_323 : decode c_MD_oneLine 323 = .ok (.ifCond .eq 7, 3) := by decide +kernel
theorem d_MD_oneLine_326 : decode c_MD_oneLine 326 = .ok (.iconst 1, 1) := by decide +kernel
theorem d_MD_oneLine_327 : decode c_MD_oneLine 327 = .ok (.goto 4, 3) := by decide +kernel
theorem d_MD_oneLine_330 : decode c_MD_oneLine 330 = .ok (.iconst 0, 1) := by decide +kernel
theorem d_MD_oneLine_331 : decode c_MD_oneLine 331 = .ok (.putfield 177, 3) := by decide +kernel
theorem d_MD_oneLine_334 : decode c_MD_oneLine 334 = .ok (.aload_n 0, 1) := by decide +kernel
theorem d_MD_oneLine_335 : decode c_MD_oneLine 335 = .ok (.getfield 177, 3) := by decide +kernel
theorem d_MD_oneLine_338 : decode c_MD_oneLine 338 = .ok (.ifCond .eq 26, 3) := by decide +kernel
theorem d_MD_oneLine_341 : decode c_MD_oneLine 341 = .ok (.iload 7, 2) := by decide +kernel
theorem d_MD_oneLine_343 : decode c_MD_oneLine 343 = .ok (.bipush 27, 2) := by decide +kernel
theorem d_MD_oneLine_345 : decode c_MD_oneLine 345 = .ok (.if_icmp .ne 19, 3) := by decide +kernel
theorem d_MD_oneLine_348 : decode c_MD_oneLine 348 = .ok (.aload_n 0, 1) := by decide +kernel
theorem d_MD_oneLine_349 : decode c_MD_oneLine 349 = .ok (.getfield 191, 3) := by decide +kernel
theorem d_MD_oneLine_352 : decode c_MD_oneLine 352 = .ok (.aload_n 0, 1) := by decide +kernel
theorem d_MD_oneLine_353 : decode c_MD_oneLine 353 = .ok (.getfield 214, 3) := by decide +kernel
theorem d_MD_oneLine_356 : decode c_MD_oneLine 356 = .ok (.if_icmp .ge 8, 3) := by decide +kernel
theorem d_MD_oneLine_359 : decode c_MD_oneLine 359 = .ok (.aload_n 0, 1) := by decide +kernel
theorem d_MD_oneLine_360 : decode c_MD_oneLine 360 = .ok (.iconst 0, 1) := by decide +kernel
theorem d_MD_oneLine_361 : decode c_MD_oneLine 361 = .ok (.putfield 177, 3) := by decide +kernel
theorem d_MD_oneLine_364 : decode c_MD_oneLine 364 = .ok (.aload_n 0, 1) := by decide +kernel
theorem d_MD_oneLine_365 : decode c_MD_oneLine 365 = .ok (.getfield 177, 3) := by decide +kernel
theorem d_MD_oneLine_368 : decode c_MD_oneLine 368 = .ok (.ifCond .ne 5, 3) := by decide +kernel
theorem d_MD_oneLine_371 : decode c_MD_oneLine 371 = .ok (.iconst 1, 1) := by decide +kernel
theorem d_MD_oneLine_372 : decode c_MD_oneLine 372 = .ok (.ireturn, 1) := by decide +kernel
theorem d_MD_oneLine_373 : decode c_MD_oneLine 373 = .ok (.iload 6, 2) := by decide +kernel
theorem d_MD_oneLine_375 : decode c_MD_oneLine 375 = .ok (.ifCond .eq 76, 3) := by decide +kernel
theorem d_MD_oneLine_378 : decode c_MD_oneLine 378 = .ok (.iload_n 2, 1) := by decide +kernel
theorem d_MD_oneLine_379 : decode c_MD_oneLine 379 = .ok (.ifCond .ne 72, 3) := by decide +kernel
theorem d_MD_oneLine_382 : decode c_MD_oneLine 382 = .ok (.aload_n 0, 1) := by decide +kernel
theorem d_MD_oneLine_383 : decode c_MD_oneLine 383 = .ok (.iload 5, 2) := by decide +kernel
theorem d_MD_oneLine_385 : decode c_MD_oneLine 385 = .ok (.iload 4, 2) := by decide +kernel
theorem d_MD_oneLine_387 : decode c_MD_oneLine 387 = .ok (.invokevirtual 204, 3) := by decide +kernel
theorem d_MD_oneLine_390 : decode c_MD_oneLine 390 = .ok (.ifCond .lt 5, 3) := by decide +kernel
theorem d_MD_oneLine_393 : decode c_MD_oneLine 393 = .ok (.iconst 2, 1) := by decide +kernel
theorem d_MD_oneLine_394 : decode c_MD_oneLine 394 = .ok (.ireturn, 1) := by decide +kernel
theorem d_MD_oneLine_395 : decode c_MD_oneLine 395 = .ok (.aload_n 0, 1) := by decide +kernel
theorem d_MD_oneLine_396 : decode c_MD_oneLine 396 = .ok (.getfield 109, 3) := by decide +kernel
theorem d_MD_oneLine_399 : decode c_MD_oneLine 399 = .ok (.bipush 100, 2) := by decide +kernel
theorem d_MD_oneLine_401 : decode c_MD_oneLine 401 = .ok (.if_icmp .ne 5, 3) := by decide +kernel
theorem d_MD_oneLine_404 : decode c_MD_oneLine 404 = .ok (.iconst 3, 1) := by decide +kernel
theorem d_MD_oneLine_405 : decode c_MD_oneLine 405 = .ok (.ireturn, 1) := by decide +kernel
theorem d_MD_oneLine_406 : decode c_MD_oneLine 406 = .ok (.aload_n 0, 1) := by decide +kernel
theorem d_MD_oneLine_407 : decode c_MD_oneLine 407 = .ok (.getfield 80, 3) := by decide +kernel
theorem d_MD_oneLine_410 : decode c_MD_oneLine 410 = .ok (.aload_n 0, 1) := by decide +kernel
theorem d_MD_oneLine_411 : decode c_MD_oneLine 411 = .ok (.getfield 109, 3) := by decide +kernel
theorem d_MD_oneLine_414 : decode c_MD_oneLine 414 = .ok (.iload 5, 2) := by decide +kernel
theorem d_MD_oneLine_416 : decode c_MD_oneLine 416 = .ok (.iastore, 1) := by decide +kernel
theorem d_MD_oneLine_417 : decode c_MD_oneLine 417 = .ok (.aload_n 0, 1) := by decide +kernel
theorem d_MD_oneLine_418 : decode c_MD_oneLine 418 = .ok (.getfield 83, 3) := by decide +kernel
theorem d_MD_oneLine_421 : decode c_MD_oneLine 421 = .ok (.aload_n 0, 1) := by decide +kernel
theorem d_MD_oneLine_422 : decode c_MD_oneLine 422 = .ok (.getfield 109, 3) := by decide +kernel
theorem d_MD_oneLine_425 : decode c_MD_oneLine 425 = .ok (.iload 4, 2) := by decide +kernel
theorem d_MD_oneLine_427 : decode c_MD_oneLine 427 = .ok (.iastore, 1) := by decide +kernel
theorem d_MD_oneLine_428 : decode c_MD_oneLine 428 = .ok (.aload_n 0, 1) := by decide +kernel
theorem d_MD_oneLine_429 : decode c_MD_oneLine 429 = .ok (.getfield 86, 3) := by decide +kernel
theorem d_MD_oneLine_432 : decode c_MD_oneLine 432 = .ok (.aload_n 0, 1) := by decide +kernel
theorem d_MD_oneLine_433 : decode c_MD_oneLine 433 = .ok (.getfield 109, 3) := by decide +kernel
theorem d_MD_oneLine_436 : decode c_MD_oneLine 436 = .ok (.aload_n 0, 1) := by decide +kernel
theorem d_MD_oneLine_437 : decode c_MD_oneLine 437 = .ok (.getfield 214, 3) := by decide +kernel
theorem d_MD_oneLine_440 : decode c_MD_oneLine 440 = .ok (.iastore, 1) := by decide +kernel
theorem d_MD_oneLine_441 : decode c_MD_oneLine 441 = .ok (.aload_n 0, 1) := by decide +kernel
theorem d_MD_oneLine_442 : decode c_MD_oneLine 442 = .ok (.dup, 1) := by decide +kernel
theorem d_MD_oneLine_443 : decode c_MD_oneLine 443 = .ok (.getfield 109, 3) := by decide +kernel
theorem d_MD_oneLine_446 : decode c_MD_oneLine 446 = .ok (.iconst 1, 1) := by decide +kernel
theorem d_MD_oneLine_447 : decode c_MD_oneLine 447 = .ok (.iadd, 1) := by decide +kernel
theorem d_MD_oneLine_448 : decode c_MD_oneLine 448 = .ok (.putfield 109, 3) := by decide +kernel
theorem d_MD_oneLine_451 : decode c_MD_oneLine 451 = .ok (.iload 7, 2) := by decide +kernel
theorem d_MD_oneLine_453 : decode c_MD_oneLine 453 = .ok (.ifCond .ge 10, 3) := by decide +kernel
theorem d_MD_oneLine_456 : decode c_MD_oneLine 456 = .ok (.aload_n 0, 1) := by decide +kernel
theorem d_MD_oneLine_457 : decode c_MD_oneLine 457 = .ok (.getfield 214, 3) := by decide +kernel
theorem d_MD_oneLine_460 : decode c_MD_oneLine 460 = .ok (.goto 58, 3) := by decide +kernel
theorem d_MD_oneLine_463 : decode c_MD_oneLine 463 = .ok (.iload 7, 2) := by decide +kernel
theorem d_MD_oneLine_465 : decode c_MD_oneLine 465 = .ok (.bipush 25, 2) := by decide +kernel
theorem d_MD_oneLine_467 : decode c_MD_oneLine 467 = .ok (.if_icmp .ge 12, 3) := by decide +kernel
theorem d_MD_oneLine_470 : decode c_MD_oneLine 470 = .ok (.aload_n 0, 1) := by decide +kernel
theorem d_MD_oneLine_471 : decode c_MD_oneLine 471 = .ok (.getfield 214, 3) := by decide +kernel
theorem d_MD_oneLine_474 : decode c_MD_oneLine 474 = .ok (.iconst 2, 1) := by decide +kernel
theorem d_MD_oneLine_475 : decode c_MD_oneLine 475 = .ok (.iadd, 1) := by decide +kernel
theorem d_MD_oneLine_476 : decode c_MD_oneLine 476 = .ok (.goto 42, 3) := by decide +kernel
theorem d_MD_oneLine_479 : decode c_MD_oneLine 479 = .ok (.iload 7, 2) := by decide +kernel
theorem d_MD_oneLine_481 : decode c_MD_oneLine 481 = .ok (.bipush 25, 2) := by decide +kernel
theorem d_MD_oneLine_483 : decode c_MD_oneLine 483 = .ok (.if_icmp .ne 12, 3) := by decide +kernel
theorem d_MD_oneLine_486 : decode c_MD_oneLine 486 = .ok (.aload_n 0, 1) := by decide +kernel
theorem d_MD_oneLine_487 : decode c_MD_oneLine 487 = .ok (.getfield 214, 3) := by decide +kernel
theorem d_MD_oneLine_490 : decode c_MD_oneLine 490 = .ok (.iconst 1, 1) := by decide +kernel
theorem d_MD_oneLine_491 : decode c_MD_oneLine 491 = .ok (.iadd, 1) := by decide +kernel
theorem d_MD_oneLine_492 : decode c_MD_oneLine 492 = .ok (.goto 26, 3) := by decide +kernel
theorem d_MD_oneLine_495 : decode c_MD_oneLine 495 = .ok (.iload 7, 2) := by decide +kernel
theorem d_MD_oneLine_497 : decode c_MD_oneLine 497 = .ok (.bipush 26, 2) := by decide +kernel
theorem d_MD_oneLine_499 : decode c_MD_oneLine 499 = .ok (.if_icmp .ne 15, 3) := by decide +kernel
theorem d_MD_oneLine_502 : decode c_MD_oneLine 502 = .ok (.aload_n 0, 1) := by decide +kernel
theorem d_MD_oneLine_503 : decode c_MD_oneLine 503 = .ok (.getfield 214, 3) := by decide +kernel
theorem d_MD_oneLine_506 : decode c_MD_oneLine 506 = .ok (.aload_n 0, 1) := by decide +kernel
theorem d_MD_oneLine_507 : decode c_MD_oneLine 507 = .ok (.getfield 191, 3) := by decide +kernel
theorem d_MD_oneLine_510 : decode c_MD_oneLine 510 = .ok (.iadd, 1) := by decide +kernel
theorem d_MD_oneLine_511 : decode c_MD_oneLine 511 = .ok (.goto 7, 3) := by decide +kernel
theorem d_MD_oneLine_514 : decode c_MD_oneLine 514 = .ok (.aload_n 0, 1) := by decide +kernel
theorem d_MD_oneLine_515 : decode c_MD_oneLine 515 = .ok (.getfield 191, 3) := by decide +kernel
theorem d_MD_oneLine_518 : decode c_MD_oneLine 518 = .ok (.istore 10, 2) := by decide +kernel
theorem d_MD_oneLine_520 : decode c_MD_oneLine 520 = .ok (.iload 10, 2) := by decide +kernel
theorem d_MD_oneLine_522 : decode c_MD_oneLine 522 = .ok (.iload_n 1, 1) := by decide +kernel
theorem d_MD_oneLine_523 : decode c_MD_oneLine 523 = .ok (.if_icmp .le 5, 3) := by decide +kernel
theorem d_MD_oneLine_526 : decode c_MD_oneLine 526 = .ok (.iconst 4, 1) := by decide +kernel
theorem d_MD_oneLine_527 : decode c_MD_oneLine 527 = .ok (.ireturn, 1) := by decide +kernel
theorem d_MD_oneLine_528 : decode c_MD_oneLine 528 = .ok (.iload 7, 2) := by decide +kernel
theorem d_MD_oneLine_530 : decode c_MD_oneLine 530 = .ok (.ifCond .lt 49, 3) := by decide +kernel
theorem d_MD_oneLine_533 : decode c_MD_oneLine 533 = .ok (.iload 7, 2) := by decide +kernel
theorem d_MD_oneLine_535 : decode c_MD_oneLine 535 = .ok (.bipush 25, 2) := by decide +kernel
theorem d_MD_oneLine_537 : decode c_MD_oneLine 537 = .ok (.if_icmp .ge 42, 3) := by decide +kernel
theorem d_MD_oneLine_540 : decode c_MD_oneLine 540 = .ok (.aload_n 0, 1) := by decide +kernel
theorem d_MD_oneLine_541 : decode c_MD_oneLine 541 = .ok (.bipush 64, 2) := by decide +kernel
theorem d_MD_oneLine_543 : decode c_MD_oneLine 543 = .ok (.iload 7, 2) := by decide +kernel
theorem d_MD_oneLine_545 : decode c_MD_oneLine 545 = .ok (.imul, 1) := by decide +kernel
theorem d_MD_oneLine_546 : decode c_MD_oneLine 546 = .ok (.bipush 8, 2) := by decide +kernel
theorem d_MD_oneLine_548 : decode c_MD_oneLine 548 = .ok (.iload 8, 2) := by decide +kernel
theorem d_MD_oneLine_550 : decode c_MD_oneLine 550 = .ok (.imul, 1) := by decide +kernel
theorem d_MD_oneLine_551 : decode c_MD_oneLine 551 = .ok (.iadd, 1) := by decide +kernel
theorem d_MD_oneLine_552 : decode c_MD_oneLine 552 = .ok (.iload 9, 2) := by decide +kernel
theorem d_MD_oneLine_554 : decode c_MD_oneLine 554 = .ok (.iadd, 1) := by decide +kernel
theorem d_MD_oneLine_555 : decode c_MD_oneLine 555 = .ok (.iload_n 2, 1) := by decide +kernel
theorem d_MD_oneLine_556 : decode c_MD_oneLine 556 = .ok (.invokevirtual 229, 3) := by decide +kernel
theorem d_MD_oneLine_559 : decode c_MD_oneLine 559 = .ok (.aload_n 0, 1) := by decide +kernel
theorem d_MD_oneLine_560 : decode c_MD_oneLine 560 = .ok (.iload_n 2, 1) := by decide +kernel
theorem d_MD_oneLine_561 : decode c_MD_oneLine 561 = .ok (.ifCond .eq 10, 3) := by decide +kernel
theorem d_MD_oneLine_564 : decode c_MD_oneLine 564 = .ok (.aload_n 0, 1) := by decide +kernel
theorem d_MD_oneLine_565 : decode c_MD_oneLine 565 = .ok (.invokevirtual 233, 3) := by decide +kernel
theorem d_MD_oneLine_568 : decode c_MD_oneLine 568 = .ok (.goto 4, 3) := by decide +kernel
theorem d_MD_oneLine_571 : decode c_MD_oneLine 571 = .ok (.iconst 0, 1) := by decide +kernel
theorem d_MD_oneLine_572 : decode c_MD_oneLine 572 = .ok (.iload_n 2, 1) := by decide +kernel
theorem d_MD_oneLine_573 : decode c_MD_oneLine 573 = .ok (.invokevirtual 229, 3) := by decide +kernel
theorem d_MD_oneLine_576 : decode c_MD_oneLine 576 = .ok (.goto 27, 3) := by decide +kernel
theorem d_MD_oneLine_579 : decode c_MD_oneLine 579 = .ok (.iload 7, 2) := by decide +kernel
theorem d_MD_oneLine_581 : decode c_MD_oneLine 581 = .ok (.bipush 25, 2) := by decide +kernel
theorem d_MD_oneLine_583 : decode c_MD_oneLine 583 = .ok (.if_icmp .ne 20, 3) := by decide +kernel
theorem d_MD_oneLine_586 : decode c_MD_oneLine 586 = .ok (.aload_n 0, 1) := by decide +kernel
theorem d_MD_oneLine_587 : decode c_MD_oneLine 587 = .ok (.iload_n 2, 1) := by decide +kernel
theorem d_MD_oneLine_588 : decode c_MD_oneLine 588 = .ok (.ifCond .eq 10, 3) := by decide +kernel
theorem d_MD_oneLine_591 : decode c_MD_oneLine 591 = .ok (.aload_n 0, 1) := by decide +kernel
theorem d_MD_oneLine_592 : decode c_MD_oneLine 592 = .ok (.invokevirtual 233, 3) := by decide +kernel
theorem d_MD_oneLine_595 : decode c_MD_oneLine 595 = .ok (.goto 4, 3) := by decide +kernel
theorem d_MD_oneLine_598 : decode c_MD_oneLine 598 = .ok (.iconst 0, 1) := by decide +kernel
theorem d_MD_oneLine_599 : decode c_MD_oneLine 599 = .ok (.iload_n 2, 1) := by decide +kernel
theorem d_MD_oneLine_600 : decode c_MD_oneLine 600 = .ok (.invokevirtual 229, 3) := by decide +kernel
theorem d_MD_oneLine_603 : decode c_MD_oneLine 603 = .ok (.aload_n 0, 1) := by decide +kernel
theorem d_MD_oneLine_604 : decode c_MD_oneLine 604 = .ok (.iload 10, 2) := by decide +kernel
theorem d_MD_oneLine_606 : decode c_MD_oneLine 606 = .ok (.putfield 214, 3) := by decide +kernel
theorem d_MD_oneLine_609 : decode c_MD_oneLine 609 = .ok (.iconst 0, 1) := by decide +kernel
theorem d_MD_oneLine_610 : decode c_MD_oneLine 610 = .ok (.ireturn, 1) := by decide +kernel
theorem d_MD_lines_0 : decode c_MD_lines 0 = .ok (.aload_n 0, 1) := by decide +kernel
theorem d_MD_lines_1 : decode c_MD_lines 1 = .ok (.iconst 0, 1) := by decide +kernel
theorem d_MD_lines_2 : decode c_MD_lines 2 = .ok (.putfield 95, 3) := by decide +kernel
theorem d_MD_lines_5 : decode c_MD_lines 5 = .ok (.aload_n 0, 1) := by decide +kernel
theorem d_MD_lines_6 : decode c_MD_lines 6 = .ok (.iconst 0, 1) := by decide +kernel
theorem d_MD_lines_7 : decode c_MD_lines 7 = .ok (.putfield 211, 3) := by decide +kernel
theorem d_MD_lines_10 : decode c_MD_lines 10 = .ok (.aload_n 0, 1) := by decide +kernel
theorem d_MD_lines_11 : decode c_MD_lines 11 = .ok (.iconst 0, 1) := by decide +kernel
theorem d_MD_lines_12 : decode c_MD_lines 12 = .ok (.putfield 214, 3) := by decide +kernel
theorem d_MD_lines_15 : decode c_MD_lines 15 = .ok (.aload_n 0, 1) := by decide +kernel
theorem d_MD_lines_16 : decode c_MD_lines 16 = .ok (.getfield 95, 3) := by decide +kernel
theorem d_MD_lines_19 : decode c_MD_lines 19 = .ok (.aload_n 0, 1) := by decide +kernel
theorem d_MD_lines_20 : decode c_MD_lines 20 = .ok (.getfield 92, 3) := by decide +kernel
theorem d_MD_lines_23 : decode c_MD_lines 23 = .ok (.if_icmp .ge 90, 3) := by decide +kernel
theorem d_MD_lines_26 : decode c_MD_lines 26 = .ok (.aload_n 0, 1) := by decide +kernel
theorem d_MD_lines_27 : decode c_MD_lines 27 = .ok (.dup, 1) := by decide +kernel
theorem d_MD_lines_28 : decode c_MD_lines 28 = .ok (.getfield 211, 3) := by decide +kernel
theorem d_MD_lines_31 : decode c_MD_lines 31 = .ok (.iconst 1, 1) := by decide +kernel
theorem d_MD_lines_32 : decode c_MD_lines 32 = .ok (.iadd, 1) := by decide +kernel
theorem d_MD_lines_33 : decode c_MD_lines 33 = .ok (.putfield 211, 3) := by decide +kernel
theorem d_MD_lines_36 : decode c_MD_lines 36 = .ok (.aload_n 0, 1) := by decide +kernel
theorem d_MD_lines_37 : decode c_MD_lines 37 = .ok (.iload_n 1, 1) := by decide +kernel
theorem d_MD_lines_38 : decode c_MD_lines 38 = .ok (.iload_n 2, 1) := by decide +kernel
theorem d_MD_lines_39 : decode c_MD_lines 39 = .ok (.invokevirtual 236, 3) := by decide +kernel
theorem d_MD_lines_42 : decode c_MD_lines 42 = .ok (.istore_n 3, 1) := by decide +kernel
theorem d_MD_lines_43 : decode c_MD_lines 43 = .ok (.iload_n 3, 1) := by decide +kernel
theorem d_MD_lines_44 : decode c_MD_lines 44 = .ok (.ifCond .le 18, 3) := by decide +kernel
theorem d_MD_lines_47 : decode c_MD_lines 47 = .ok (.aload_n 0, 1) := by decide +kernel
theorem d_MD_lines_48 : decode c_MD_lines 48 = .ok (.iload_n 3, 1) := by decide +kernel
theorem d_MD_lines_49 : decode c_MD_lines 49 = .ok (.putfield 240, 3) := by decide +kernel
theorem d_MD_lines_52 : decode c_MD_lines 52 = .ok (.aload_n 0, 1) := by decide +kernel
theorem d_MD_lines_53 : decode c_MD_lines 53 = .ok (.aload_n 0, 1) := by decide +kernel
theorem d_MD_lines_54 : decode c_MD_lines 54 = .ok (.getfield 211, 3) := by decide +kernel
theorem d_MD_lines_57 : decode c_MD_lines 57 = .ok (.putfield 243, 3) := by decide +kernel
theorem d_MD_lines_60 : decode c_MD_lines 60 = .ok (.iconst 0, 1) := by decide +kernel
theorem d_MD_lines_61 : decode c_MD_lines 61 = .ok (.ireturn, 1) := by decide +kernel
theorem d_MD_lines_62 : decode c_MD_lines 62 = .ok (.aload_n 0, 1) := by decide +kernel
theorem d_MD_lines_63 : decode c_MD_lines 63 = .ok (.getfield 95, 3) := by decide +kernel
theorem d_MD_lines_66 : decode c_MD_lines 66 = .ok (.aload_n 0, 1) := by decide +kernel
theorem d_MD_lines_67 : decode c_MD_lines 67 = .ok (.getfield 92, 3) := by decide +kernel
theorem d_MD_lines_70 : decode c_MD_lines 70 = .ok (.if_icmp .ge 30, 3) := by decide +kernel
theorem d_MD_lines_73 : decode c_MD_lines 73 = .ok (.aload_n 0, 1) := by decide +kernel
theorem d_MD_lines_74 : decode c_MD_lines 74 = .ok (.getfield 11, 3) := by decide +kernel
theorem d_MD_lines_77 : decode c_MD_lines 77 = .ok (.aload_n 0, 1) := by decide +kernel
theorem d_MD_lines_78 : decode c_MD_lines 78 = .ok (.getfield 95, 3) := by decide +kernel
theorem d_MD_lines_81 : decode c_MD_lines 81 = .ok (.baload, 1) := by decide +kernel
theorem d_MD_lines_82 : decode c_MD_lines 82 = .ok (.bipush 10, 2) := by decide +kernel
theorem d_MD_lines_84 : decode c_MD_lines 84 = .ok (.if_icmp .eq 16, 3) := by decide +kernel
theorem d_MD_lines_87 : decode c_MD_lines 87 = .ok (.aload_n 0, 1) := by decide +kernel
theorem d_MD_lines_88 : decode c_MD_lines 88 = .ok (.dup, 1) := by decide +kernel
theorem d_MD_lines_89 : decode c_MD_lines 89 = .ok (.getfield 95, 3) := by decide +kernel
theorem d_MD_lines_92 : decode c_MD_lines 92 = .ok (.iconst 1, 1) := by decide +kernel
theorem d_MD_lines_93 : decode c_MD_lines 93 = .ok (.iadd, 1) := by decide +kernel
theorem d_MD_lines_94 : decode c_MD_lines 94 = .ok (.putfield 95, 3) := by decide +kernel
theorem d_MD_lines_97 : decode c_MD_lines 97 = .ok (.goto (-35), 3) := by decide +kernel
theorem d_MD_lines_100 : decode c_MD_lines 100 = .ok (.aload_n 0, 1) := by decide +kernel
theorem d_MD_lines_101 : decode c_MD_lines 101 = .ok (.dup, 1) := by decide +kernel
theorem d_MD_lines_102 : decode c_MD_lines 102 = .ok (.getfield 95, 3) := by decide +kernel
theorem d_MD_lines_105 : decode c_MD_lines 105 = .ok (.iconst 1, 1) := by decide +kernel
theorem d_MD_lines_106 : decode c_MD_lines 106 = .ok (.iadd, 1) := by decide +kernel
theorem d_MD_lines_107 : decode c_MD_lines 107 = .ok (.putfield 95, 3) := by decide +kernel
theorem d_MD_lines_110 : decode c_MD_lines 110 = .ok (.goto (-95), 3) := by decide +kernel
theorem d_MD_lines_113 : decode c_MD_lines 113 = .ok (.iconst 1, 1) := by decide +kernel
theorem d_MD_lines_114 : decode c_MD_lines 114 = .ok (.ireturn, 1) := by decide +kernel
theorem d_MD_load_0 : decode c_MD_load 0 = .ok (.iload_n 1, 1) := by decide +kernel
theorem d_MD_load_1 : decode c_MD_load 1 = .ok (.iconst 0, 1) := by decide +kernel
theorem d_MD_load_2 : decode c_MD_load 2 = .ok (.iconst 2, 1) := by decide +kernel
theorem d_MD_load_3 : decode c_MD_load 3 = .ok (.invokestatic 246, 3) := by decide +kernel
theorem d_MD_load_6 : decode c_MD_load 6 = .ok (.ifCond .eq 38, 3) := by decide +kernel
theorem d_MD_load_9 : decode c_MD_load 9 = .ok (.iload_n 2, 1) := by decide +kernel
theorem d_MD_load_10 : decode c_MD_load 10 = .ok (.bipush 64, 2) := by decide +kernel
theorem d_MD_load_12 : decode c_MD_load 12 = .ok (.sipush 1024, 3) := by decide +kernel
theorem d_MD_load_15 : decode c_MD_load 15 = .ok (.invokestatic 246, 3) := by decide +kernel
theorem d_MD_load_18 : decode c_MD_load 18 = .ok (.ifCond .eq 26, 3) := by decide +kernel
theorem d_MD_load_21 : decode c_MD_load 21 = .ok (.iload_n 3, 1) := by decide +kernel
theorem d_MD_load_22 : decode c_MD_load 22 = .ok (.iconst 0, 1) := by decide +kernel
theorem d_MD_load_23 : decode c_MD_load 23 = .ok (.iconst 2, 1) := by decide +kernel
theorem d_MD_load_24 : decode c_MD_load 24 = .ok (.invokestatic 246, 3) := by decide +kernel
theorem d_MD_load_27 : decode c_MD_load 27 = .ok (.ifCond .eq 17, 3) := by decide +kernel
theorem d_MD_load_30 : decode c_MD_load 30 = .ok (.iload 4, 2) := by decide +kernel
theorem d_MD_load_32 : decode c_MD_load 32 = .ok (.ifCond .lt 12, 3) := by decide +kernel
theorem d_MD_load_35 : decode c_MD_load 35 = .ok (.iload 4, 2) := by decide +kernel
theorem d_MD_load_37 : decode c_MD_load 37 = .ok (.aload_n 0, 1) := by decide +kernel
theorem d_MD_load_38 : decode c_MD_load 38 = .ok (.getfield 1, 3) := by decide +kernel
theorem d_MD_load_41 : decode c_MD_load 41 = .ok (.if_icmp .le 6, 3) := by decide +kernel
theorem d_MD_load_44 : decode c_MD_load 44 = .ok (.bipush (-2), 2) := by decide +kernel
theorem d_MD_load_46 : decode c_MD_load 46 = .ok (.ireturn, 1) := by decide +kernel
theorem d_MD_load_47 : decode c_MD_load 47 = .ok (.aload_n 0, 1) := by decide +kernel
theorem d_MD_load_48 : decode c_MD_load 48 = .ok (.iconst 0, 1) := by decide +kernel
theorem d_MD_load_49 : decode c_MD_load 49 = .ok (.putfield 1, 3) := by decide +kernel
theorem d_MD_load_52 : decode c_MD_load 52 = .ok (.aload_n 0, 1) := by decide +kernel
theorem d_MD_load_53 : decode c_MD_load 53 = .ok (.iload 4, 2) := by decide +kernel
theorem d_MD_load_55 : decode c_MD_load 55 = .ok (.putfield 92, 3) := by decide +kernel
theorem d_MD_load_58 : decode c_MD_load 58 = .ok (.aload_n 0, 1) := by decide +kernel
theorem d_MD_load_59 : decode c_MD_load 59 = .ok (.iconst 1, 1) := by decide +kernel
theorem d_MD_load_60 : decode c_MD_load 60 = .ok (.putfield 250, 3) := by decide +kernel
theorem d_MD_load_63 : decode c_MD_load 63 = .ok (.aload_n 0, 1) := by decide +kernel
theorem d_MD_load_64 : decode c_MD_load 64 = .ok (.iconst 0, 1) := by decide +kernel
theorem d_MD_load_65 : decode c_MD_load 65 = .ok (.putfield 240, 3) := by decide +kernel
theorem d_MD_load_68 : decode c_MD_load 68 = .ok (.aload_n 0, 1) := by decide +kernel
theorem d_MD_load_69 : decode c_MD_load 69 = .ok (.iconst 0, 1) := by decide +kernel
theorem d_MD_load_70 : decode c_MD_load 70 = .ok (.putfield 243, 3) := by decide +kernel
theorem d_MD_load_73 : decode c_MD_load 73 = .ok (.aload_n 0, 1) := by decide +kernel
theorem d_MD_load_74 : decode c_MD_load 74 = .ok (.iconst 0, 1) := by decide +kernel
theorem d_MD_load_75 : decode c_MD_load 75 = .ok (.putfield 109, 3) := by decide +kernel
theorem d_MD_load_78 : decode c_MD_load 78 = .ok (.aload_n 0, 1) := by decide +kernel
theorem d_MD_load_79 : decode c_MD_load 79 = .ok (.iconst 0, 1) := by decide +kernel
theorem d_MD_load_80 : decode c_MD_load 80 = .ok (.putfield 208, 3) := by decide +kernel
theorem d_MD_load_83 : decode c_MD_load 83 = .ok (.iconst 0, 1) := by decide +kernel
theorem d_MD_load_84 : decode c_MD_load 84 = .ok (.istore 5, 2) := by decide +kernel
theorem d_MD_load_86 : decode c_MD_load 86 = .ok (.iload 5, 2) := by decide +kernel
theorem d_MD_load_88 : decode c_MD_load 88 = .ok (.sipush 1024, 3) := by decide +kernel
theorem d_MD_load_91 : decode c_MD_load 91 = .ok (.if_icmp .ge 17, 3) := by decide +kernel
theorem d_MD_load_94 : decode c_MD_load 94 = .ok (.aload_n 0, 1) := by decide +kernel
theorem d_MD_load_95 : decode c_MD_load 95 = .ok (.getfield 89, 3) := by decide +kernel
theorem d_MD_load_98 : decode c_MD_load 98 = .ok (.iload 5, 2) := by decide +kernel
theorem d_MD_load_100 : decode c_MD_load 100 = .ok (.iconst 0, 1) := by decide +kernel
theorem d_MD_load_101 : decode c_MD_load 101 = .ok (.iastore, 1) := by decide +kernel
theorem d_MD_load_102 : decode c_MD_load 102 = .ok (.iinc 5 1, 3) := by decide +kernel
theorem d_MD_load_105 : decode c_MD_load 105 = .ok (.goto (-19), 3) := by decide +kernel
theorem d_MD_load_108 : decode c_MD_load 108 = .ok (.aload_n 0, 1) := by decide +kernel
theorem d_MD_load_109 : decode c_MD_load 109 = .ok (.iload_n 2, 1) := by decide +kernel
theorem d_MD_load_110 : decode c_MD_load 110 = .ok (.iconst 0, 1) := by decide +kernel
theorem d_MD_load_111 : decode c_MD_load 111 = .ok (.invokevirtual 253, 3) := by decide +kernel
theorem d_MD_load_114 : decode c_MD_load 114 = .ok (.ifCond .eq 12, 3) := by decide +kernel
theorem d_MD_load_117 : decode c_MD_load 117 = .ok (.aload_n 0, 1) := by decide +kernel
theorem d_MD_load_118 : decode c_MD_load 118 = .ok (.iload_n 2, 1) := by decide +kernel
theorem d_MD_load_119 : decode c_MD_load 119 = .ok (.iconst 1, 1) := by decide +kernel
theorem d_MD_load_120 : decode c_MD_load 120 = .ok (.invokevirtual 253, 3) := by decide +kernel
theorem d_MD_load_123 : decode c_MD_load 123 = .ok (.ifCond .ne 5, 3) := by decide +kernel
theorem d_MD_load_126 : decode c_MD_load 126 = .ok (.iconst (-1), 1) := by decide +kernel
theorem d_MD_load_127 : decode c_MD_load 127 = .ok (.ireturn, 1) := by decide +kernel
theorem d_MD_load_128 : decode c_MD_load 128 = .ok (.aload_n 0, 1) := by decide +kernel
theorem d_MD_load_129 : decode c_MD_load 129 = .ok (.getfield 208, 3) := by decide +kernel
theorem d_MD_load_132 : decode c_MD_load 132 = .ok (.ifCond .le 18, 3) := by decide +kernel
theorem d_MD_load_135 : decode c_MD_load 135 = .ok (.aload_n 0, 1) := by decide +kernel
theorem d_MD_load_136 : decode c_MD_load 136 = .ok (.iconst 5, 1) := by decide +kernel
theorem d_MD_load_137 : decode c_MD_load 137 = .ok (.putfield 240, 3) := by decide +kernel
theorem d_MD_load_140 : decode c_MD_load 140 = .ok (.aload_n 0, 1) := by decide +kernel
theorem d_MD_load_141 : decode c_MD_load 141 = .ok (.aload_n 0, 1) := by decide +kernel
theorem d_MD_load_142 : decode c_MD_load 142 = .ok (.getfield 208, 3) := by decide +kernel
theorem d_MD_load_145 : decode c_MD_load 145 = .ok (.putfield 243, 3) := by decide +kernel
theorem d_MD_load_148 : decode c_MD_load 148 = .ok (.iconst (-1), 1) := by decide +kernel
theorem d_MD_load_149 : decode c_MD_load 149 = .ok (.ireturn, 1) := by decide +kernel
theorem d_MD_load_150 : decode c_MD_load 150 = .ok (.aload_n 0, 1) := by decide +kernel
theorem d_MD_load_151 : decode c_MD_load 151 = .ok (.iload_n 1, 1) := by decide +kernel
theorem d_MD_load_152 : decode c_MD_load 152 = .ok (.iload_n 2, 1) := by decide +kernel
theorem d_MD_load_153 : decode c_MD_load 153 = .ok (.iload_n 3, 1) := by decide +kernel
theorem d_MD_load_154 : decode c_MD_load 154 = .ok (.invokevirtual 257, 3) := by decide +kernel
theorem d_MD_load_157 : decode c_MD_load 157 = .ok (.aload_n 0, 1) := by decide +kernel
theorem d_MD_load_158 : decode c_MD_load 158 = .ok (.getfield 214, 3) := by decide +kernel
theorem d_MD_load_161 : decode c_MD_load 161 = .ok (.ireturn, 1) := by decide +kernel
theorem d_MD_begin_0 : decode c_MD_begin 0 = .ok (.aload_n 0, 1) := by decide +kernel
theorem d_MD_begin_1 : decode c_MD_begin 1 = .ok (.getfield 21, 3) := by decide +kernel
theorem d_MD_begin_4 : decode c_MD_begin 4 = .ok (.iload_n 1, 1) := by decide +kernel
theorem d_MD_begin_5 : decode c_MD_begin 5 = .ok (.iconst 1, 1) := by decide +kernel
theorem d_MD_begin_6 : decode c_MD_begin 6 = .ok (.bastore, 1) := by decide +kernel
theorem d_MD_begin_7 : decode c_MD_begin 7 = .ok (.aload_n 0, 1) := by decide +kernel
theorem d_MD_begin_8 : decode c_MD_begin 8 = .ok (.getfield 25, 3) := by decide +kernel
theorem d_MD_begin_11 : decode c_MD_begin 11 = .ok (.iload_n 1, 1) := by decide +kernel
theorem d_MD_begin_12 : decode c_MD_begin 12 = .ok (.iload_n 2, 1) := by decide +kernel
theorem d_MD_begin_13 : decode c_MD_begin 13 = .ok (.iastore, 1) := by decide +kernel
theorem d_MD_begin_14 : decode c_MD_begin 14 = .ok (.aload_n 0, 1) := by decide +kernel
theorem d_MD_begin_15 : decode c_MD_begin 15 = .ok (.getfield 29, 3) := by decide +kernel
theorem d_MD_begin_18 : decode c_MD_begin 18 = .ok (.iload_n 1, 1) := by decide +kernel
theorem d_MD_begin_19 : decode c_MD_begin 19 = .ok (.iload_n 3, 1) := by decide +kernel
theorem d_MD_begin_20 : decode c_MD_begin 20 = .ok (.iastore, 1) := by decide +kernel
theorem d_MD_begin_21 : decode c_MD_begin 21 = .ok (.iconst 0, 1) := by decide +kernel
theorem d_MD_begin_22 : decode c_MD_begin 22 = .ok (.istore 4, 2) := by decide +kernel
theorem d_MD_begin_24 : decode c_MD_begin 24 = .ok (.iload 4, 2) := by decide +kernel
theorem d_MD_begin_26 : decode c_MD_begin 26 = .ok (.sipush 1024, 3) := by decide +kernel
theorem d_MD_begin_29 : decode c_MD_begin 29 = .ok (.if_icmp .ge 29, 3) := by decide +kernel
