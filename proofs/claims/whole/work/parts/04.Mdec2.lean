theorem d_M_fits_0 : decode b_M_fits 0 = .ok (.bipush 60, 2) := by decide +kernel
theorem d_M_fits_2 : decode b_M_fits 2 = .ok (.iload_n 1, 1) := by decide +kernel
theorem d_M_fits_3 : decode b_M_fits 3 = .ok (.imul, 1) := by decide +kernel
theorem d_M_fits_4 : decode b_M_fits 4 = .ok (.istore 4, 2) := by decide +kernel
theorem d_M_fits_6 : decode b_M_fits 6 = .ok (.iload_n 2, 1) := by decide +kernel
theorem d_M_fits_7 : decode b_M_fits 7 = .ok (.istore 5, 2) := by decide +kernel
theorem d_M_fits_9 : decode b_M_fits 9 = .ok (.iconst 0, 1) := by decide +kernel
theorem d_M_fits_10 : decode b_M_fits 10 = .ok (.istore 6, 2) := by decide +kernel
theorem d_M_fits_12 : decode b_M_fits 12 = .ok (.iload 6, 2) := by decide +kernel
theorem d_M_fits_14 : decode b_M_fits 14 = .ok (.aload_n 0, 1) := by decide +kernel
theorem d_M_fits_15 : decode b_M_fits 15 = .ok (.getfield 195, 3) := by decide +kernel
theorem d_M_fits_18 : decode b_M_fits 18 = .ok (.if_icmp .gt 26, 3) := by decide +kernel
theorem d_M_fits_21 : decode b_M_fits 21 = .ok (.aload_n 0, 1) := by decide +kernel
theorem d_M_fits_22 : decode b_M_fits 22 = .ok (.getfield 111, 3) := by decide +kernel
theorem d_M_fits_25 : decode b_M_fits 25 = .ok (.iload 6, 2) := by decide +kernel
theorem d_M_fits_27 : decode b_M_fits 27 = .ok (.iload 6, 2) := by decide +kernel
theorem d_M_fits_29 : decode b_M_fits 29 = .ok (.ifCond .ne 7, 3) := by decide +kernel
theorem d_M_fits_32 : decode b_M_fits 32 = .ok (.iconst 1, 1) := by decide +kernel
theorem d_M_fits_33 : decode b_M_fits 33 = .ok (.goto 4, 3) := by decide +kernel
theorem d_M_fits_36 : decode b_M_fits 36 = .ok (.iconst 0, 1) := by decide +kernel
theorem d_M_fits_37 : decode b_M_fits 37 = .ok (.bastore, 1) := by decide +kernel
theorem d_M_fits_38 : decode b_M_fits 38 = .ok (.iinc 6 1, 3) := by decide +kernel
theorem d_M_fits_41 : decode b_M_fits 41 = .ok (.goto (-29), 3) := by decide +kernel
theorem d_M_fits_44 : decode b_M_fits 44 = .ok (.iload 5, 2) := by decide +kernel
theorem d_M_fits_46 : decode b_M_fits 46 = .ok (.iload_n 3, 1) := by decide +kernel
theorem d_M_fits_47 : decode b_M_fits 47 = .ok (.if_icmp .ge 269, 3) := by decide +kernel
theorem d_M_fits_50 : decode b_M_fits 50 = .ok (.aload_n 0, 1) := by decide +kernel
theorem d_M_fits_51 : decode b_M_fits 51 = .ok (.getfield 69, 3) := by decide +kernel
theorem d_M_fits_54 : decode b_M_fits 54 = .ok (.iload 4, 2) := by decide +kernel
theorem d_M_fits_56 : decode b_M_fits 56 = .ok (.iload 5, 2) := by decide +kernel
theorem d_M_fits_58 : decode b_M_fits 58 = .ok (.iadd, 1) := by decide +kernel
theorem d_M_fits_59 : decode b_M_fits 59 = .ok (.iaload, 1) := by decide +kernel
theorem d_M_fits_60 : decode b_M_fits 60 = .ok (.istore 6, 2) := by decide +kernel
theorem d_M_fits_62 : decode b_M_fits 62 = .ok (.iload 6, 2) := by decide +kernel
theorem d_M_fits_64 : decode b_M_fits 64 = .ok (.bipush 42, 2) := by decide +kernel
theorem d_M_fits_66 : decode b_M_fits 66 = .ok (.if_icmp .ne 32, 3) := by decide +kernel
theorem d_M_fits_69 : decode b_M_fits 69 = .ok (.iload 5, 2) := by decide +kernel
theorem d_M_fits_71 : decode b_M_fits 71 = .ok (.iconst 1, 1) := by decide +kernel
theorem d_M_fits_72 : decode b_M_fits 72 = .ok (.iadd, 1) := by decide +kernel
theorem d_M_fits_73 : decode b_M_fits 73 = .ok (.iload_n 3, 1) := by decide +kernel
theorem d_M_fits_74 : decode b_M_fits 74 = .ok (.if_icmp .ge 24, 3) := by decide +kernel
theorem d_M_fits_77 : decode b_M_fits 77 = .ok (.aload_n 0, 1) := by decide +kernel
theorem d_M_fits_78 : decode b_M_fits 78 = .ok (.getfield 69, 3) := by decide +kernel
theorem d_M_fits_81 : decode b_M_fits 81 = .ok (.iload 4, 2) := by decide +kernel
theorem d_M_fits_83 : decode b_M_fits 83 = .ok (.iload 5, 2) := by decide +kernel
theorem d_M_fits_85 : decode b_M_fits 85 = .ok (.iadd, 1) := by decide +kernel
theorem d_M_fits_86 : decode b_M_fits 86 = .ok (.iconst 1, 1) := by decide +kernel
theorem d_M_fits_87 : decode b_M_fits 87 = .ok (.iadd, 1) := by decide +kernel
theorem d_M_fits_88 : decode b_M_fits 88 = .ok (.iaload, 1) := by decide +kernel
theorem d_M_fits_89 : decode b_M_fits 89 = .ok (.bipush 42, 2) := by decide +kernel
theorem d_M_fits_91 : decode b_M_fits 91 = .ok (.if_icmp .ne 7, 3) := by decide +kernel
theorem d_M_fits_94 : decode b_M_fits 94 = .ok (.iconst 1, 1) := by decide +kernel
theorem d_M_fits_95 : decode b_M_fits 95 = .ok (.goto 4, 3) := by decide +kernel
theorem d_M_fits_98 : decode b_M_fits 98 = .ok (.iconst 0, 1) := by decide +kernel
theorem d_M_fits_99 : decode b_M_fits 99 = .ok (.istore 7, 2) := by decide +kernel
theorem d_M_fits_101 : decode b_M_fits 101 = .ok (.iconst 0, 1) := by decide +kernel
theorem d_M_fits_102 : decode b_M_fits 102 = .ok (.istore 8, 2) := by decide +kernel
theorem d_M_fits_104 : decode b_M_fits 104 = .ok (.iload 8, 2) := by decide +kernel
theorem d_M_fits_106 : decode b_M_fits 106 = .ok (.aload_n 0, 1) := by decide +kernel
theorem d_M_fits_107 : decode b_M_fits 107 = .ok (.getfield 195, 3) := by decide +kernel
theorem d_M_fits_110 : decode b_M_fits 110 = .ok (.if_icmp .gt 156, 3) := by decide +kernel
theorem d_M_fits_113 : decode b_M_fits 113 = .ok (.iload 8, 2) := by decide +kernel
theorem d_M_fits_115 : decode b_M_fits 115 = .ok (.ifCond .le 19, 3) := by decide +kernel
theorem d_M_fits_118 : decode b_M_fits 118 = .ok (.aload_n 0, 1) := by decide +kernel
theorem d_M_fits_119 : decode b_M_fits 119 = .ok (.getfield 111, 3) := by decide +kernel
theorem d_M_fits_122 : decode b_M_fits 122 = .ok (.iload 8, 2) := by decide +kernel
theorem d_M_fits_124 : decode b_M_fits 124 = .ok (.iconst 1, 1) := by decide +kernel
theorem d_M_fits_125 : decode b_M_fits 125 = .ok (.isub, 1) := by decide +kernel
theorem d_M_fits_126 : decode b_M_fits 126 = .ok (.baload, 1) := by decide +kernel
theorem d_M_fits_127 : decode b_M_fits 127 = .ok (.ifCond .eq 7, 3) := by decide +kernel
theorem d_M_fits_130 : decode b_M_fits 130 = .ok (.iconst 1, 1) := by decide +kernel
theorem d_M_fits_131 : decode b_M_fits 131 = .ok (.goto 4, 3) := by decide +kernel
theorem d_M_fits_134 : decode b_M_fits 134 = .ok (.iconst 0, 1) := by decide +kernel
theorem d_M_fits_135 : decode b_M_fits 135 = .ok (.istore 9, 2) := by decide +kernel
theorem d_M_fits_137 : decode b_M_fits 137 = .ok (.iload 6, 2) := by decide +kernel
theorem d_M_fits_139 : decode b_M_fits 139 = .ok (.bipush 42, 2) := by decide +kernel
theorem d_M_fits_141 : decode b_M_fits 141 = .ok (.if_icmp .ne 64, 3) := by decide +kernel
theorem d_M_fits_144 : decode b_M_fits 144 = .ok (.aload_n 0, 1) := by decide +kernel
theorem d_M_fits_145 : decode b_M_fits 145 = .ok (.getfield 114, 3) := by decide +kernel
theorem d_M_fits_148 : decode b_M_fits 148 = .ok (.iload 8, 2) := by decide +kernel
theorem d_M_fits_150 : decode b_M_fits 150 = .ok (.aload_n 0, 1) := by decide +kernel
theorem d_M_fits_151 : decode b_M_fits 151 = .ok (.getfield 111, 3) := by decide +kernel
theorem d_M_fits_154 : decode b_M_fits 154 = .ok (.iload 8, 2) := by decide +kernel
theorem d_M_fits_156 : decode b_M_fits 156 = .ok (.baload, 1) := by decide +kernel
theorem d_M_fits_157 : decode b_M_fits 157 = .ok (.ifCond .ne 39, 3) := by decide +kernel
theorem d_M_fits_160 : decode b_M_fits 160 = .ok (.iload 8, 2) := by decide +kernel
theorem d_M_fits_162 : decode b_M_fits 162 = .ok (.ifCond .le 38, 3) := by decide +kernel
theorem d_M_fits_165 : decode b_M_fits 165 = .ok (.aload_n 0, 1) := by decide +kernel
theorem d_M_fits_166 : decode b_M_fits 166 = .ok (.getfield 114, 3) := by decide +kernel
theorem d_M_fits_169 : decode b_M_fits 169 = .ok (.iload 8, 2) := by decide +kernel
theorem d_M_fits_171 : decode b_M_fits 171 = .ok (.iconst 1, 1) := by decide +kernel
theorem d_M_fits_172 : decode b_M_fits 172 = .ok (.isub, 1) := by decide +kernel
theorem d_M_fits_173 : decode b_M_fits 173 = .ok (.baload, 1) := by decide +kernel
theorem d_M_fits_174 : decode b_M_fits 174 = .ok (.ifCond .eq 26, 3) := by decide +kernel
theorem d_M_fits_177 : decode b_M_fits 177 = .ok (.iload 7, 2) := by decide +kernel
theorem d_M_fits_179 : decode b_M_fits 179 = .ok (.ifCond .ne 17, 3) := by decide +kernel
theorem d_M_fits_182 : decode b_M_fits 182 = .ok (.aload_n 0, 1) := by decide +kernel
theorem d_M_fits_183 : decode b_M_fits 183 = .ok (.getfield 108, 3) := by decide +kernel
theorem d_M_fits_186 : decode b_M_fits 186 = .ok (.iload 8, 2) := by decide +kernel
theorem d_M_fits_188 : decode b_M_fits 188 = .ok (.iconst 1, 1) := by decide +kernel
theorem d_M_fits_189 : decode b_M_fits 189 = .ok (.isub, 1) := by decide +kernel
theorem d_M_fits_190 : decode b_M_fits 190 = .ok (.iaload, 1) := by decide +kernel
theorem d_M_fits_191 : decode b_M_fits 191 = .ok (.bipush 46, 2) := by decide +kernel
theorem d_M_fits_193 : decode b_M_fits 193 = .ok (.if_icmp .eq 7, 3) := by decide +kernel
theorem d_M_fits_196 : decode b_M_fits 196 = .ok (.iconst 1, 1) := by decide +kernel
theorem d_M_fits_197 : decode b_M_fits 197 = .ok (.goto 4, 3) := by decide +kernel
theorem d_M_fits_200 : decode b_M_fits 200 = .ok (.iconst 0, 1) := by decide +kernel
theorem d_M_fits_201 : decode b_M_fits 201 = .ok (.bastore, 1) := by decide +kernel
theorem d_M_fits_202 : decode b_M_fits 202 = .ok (.goto 58, 3) := by decide +kernel
theorem d_M_fits_205 : decode b_M_fits 205 = .ok (.aload_n 0, 1) := by decide +kernel
theorem d_M_fits_206 : decode b_M_fits 206 = .ok (.getfield 114, 3) := by decide +kernel
theorem d_M_fits_209 : decode b_M_fits 209 = .ok (.iload 8, 2) := by decide +kernel
theorem d_M_fits_211 : decode b_M_fits 211 = .ok (.iload 9, 2) := by decide +kernel
theorem d_M_fits_213 : decode b_M_fits 213 = .ok (.ifCond .eq 45, 3) := by decide +kernel
theorem d_M_fits_216 : decode b_M_fits 216 = .ok (.iload 6, 2) := by decide +kernel
theorem d_M_fits_218 : decode b_M_fits 218 = .ok (.bipush 63, 2) := by decide +kernel
theorem d_M_fits_220 : decode b_M_fits 220 = .ok (.if_icmp .ne 20, 3) := by decide +kernel
theorem d_M_fits_223 : decode b_M_fits 223 = .ok (.aload_n 0, 1) := by decide +kernel
theorem d_M_fits_224 : decode b_M_fits 224 = .ok (.getfield 108, 3) := by decide +kernel
theorem d_M_fits_227 : decode b_M_fits 227 = .ok (.iload 8, 2) := by decide +kernel
theorem d_M_fits_229 : decode b_M_fits 229 = .ok (.iconst 1, 1) := by decide +kernel
theorem d_M_fits_230 : decode b_M_fits 230 = .ok (.isub, 1) := by decide +kernel
theorem d_M_fits_231 : decode b_M_fits 231 = .ok (.iaload, 1) := by decide +kernel
theorem d_M_fits_232 : decode b_M_fits 232 = .ok (.bipush 46, 2) := by decide +kernel
theorem d_M_fits_234 : decode b_M_fits 234 = .ok (.if_icmp .eq 24, 3) := by decide +kernel
theorem d_M_fits_237 : decode b_M_fits 237 = .ok (.goto 17, 3) := by decide +kernel
theorem d_M_fits_240 : decode b_M_fits 240 = .ok (.aload_n 0, 1) := by decide +kernel
theorem d_M_fits_241 : decode b_M_fits 241 = .ok (.getfield 108, 3) := by decide +kernel
theorem d_M_fits_244 : decode b_M_fits 244 = .ok (.iload 8, 2) := by decide +kernel
theorem d_M_fits_246 : decode b_M_fits 246 = .ok (.iconst 1, 1) := by decide +kernel
theorem d_M_fits_247 : decode b_M_fits 247 = .ok (.isub, 1) := by decide +kernel
theorem d_M_fits_248 : decode b_M_fits 248 = .ok (.iaload, 1) := by decide +kernel
theorem d_M_fits_249 : decode b_M_fits 249 = .ok (.iload 6, 2) := by decide +kernel
theorem d_M_fits_251 : decode b_M_fits 251 = .ok (.if_icmp .ne 7, 3) := by decide +kernel
theorem d_M_fits_254 : decode b_M_fits 254 = .ok (.iconst 1, 1) := by decide +kernel
theorem d_M_fits_255 : decode b_M_fits 255 = .ok (.goto 4, 3) := by decide +kernel
theorem d_M_fits_258 : decode b_M_fits 258 = .ok (.iconst 0, 1) := by decide +kernel
theorem d_M_fits_259 : decode b_M_fits 259 = .ok (.bastore, 1) := by decide +kernel
theorem d_M_fits_260 : decode b_M_fits 260 = .ok (.iinc 8 1, 3) := by decide +kernel
theorem d_M_fits_263 : decode b_M_fits 263 = .ok (.goto (-159), 3) := by decide +kernel
theorem d_M_fits_266 : decode b_M_fits 266 = .ok (.iconst 0, 1) := by decide +kernel
theorem d_M_fits_267 : decode b_M_fits 267 = .ok (.istore 8, 2) := by decide +kernel
theorem d_M_fits_269 : decode b_M_fits 269 = .ok (.iload 8, 2) := by decide +kernel
theorem d_M_fits_271 : decode b_M_fits 271 = .ok (.aload_n 0, 1) := by decide +kernel
theorem d_M_fits_272 : decode b_M_fits 272 = .ok (.getfield 195, 3) := by decide +kernel
theorem d_M_fits_275 : decode b_M_fits 275 = .ok (.if_icmp .gt 23, 3) := by decide +kernel
theorem d_M_fits_278 : decode b_M_fits 278 = .ok (.aload_n 0, 1) := by decide +kernel
theorem d_M_fits_279 : decode b_M_fits 279 = .ok (.getfield 111, 3) := by decide +kernel
theorem d_M_fits_282 : decode b_M_fits 282 = .ok (.iload 8, 2) := by decide +kernel
theorem d_M_fits_284 : decode b_M_fits 284 = .ok (.aload_n 0, 1) := by decide +kernel
theorem d_M_fits_285 : decode b_M_fits 285 = .ok (.getfield 114, 3) := by decide +kernel
theorem d_M_fits_288 : decode b_M_fits 288 = .ok (.iload 8, 2) := by decide +kernel
theorem d_M_fits_290 : decode b_M_fits 290 = .ok (.baload, 1) := by decide +kernel
theorem d_M_fits_291 : decode b_M_fits 291 = .ok (.bastore, 1) := by decide +kernel
theorem d_M_fits_292 : decode b_M_fits 292 = .ok (.iinc 8 1, 3) := by decide +kernel
theorem d_M_fits_295 : decode b_M_fits 295 = .ok (.goto (-26), 3) := by decide +kernel
theorem d_M_fits_298 : decode b_M_fits 298 = .ok (.iload 5, 2) := by decide +kernel
theorem d_M_fits_300 : decode b_M_fits 300 = .ok (.iload 7, 2) := by decide +kernel
theorem d_M_fits_302 : decode b_M_fits 302 = .ok (.ifCond .eq 7, 3) := by decide +kernel
theorem d_M_fits_305 : decode b_M_fits 305 = .ok (.iconst 2, 1) := by decide +kernel
theorem d_M_fits_306 : decode b_M_fits 306 = .ok (.goto 4, 3) := by decide +kernel
theorem d_M_fits_309 : decode b_M_fits 309 = .ok (.iconst 1, 1) := by decide +kernel
theorem d_M_fits_310 : decode b_M_fits 310 = .ok (.iadd, 1) := by decide +kernel
theorem d_M_fits_311 : decode b_M_fits 311 = .ok (.istore 5, 2) := by decide +kernel
theorem d_M_fits_313 : decode b_M_fits 313 = .ok (.goto (-269), 3) := by decide +kernel
theorem d_M_fits_316 : decode b_M_fits 316 = .ok (.aload_n 0, 1) := by decide +kernel
theorem d_M_fits_317 : decode b_M_fits 317 = .ok (.getfield 111, 3) := by decide +kernel
theorem d_M_fits_320 : decode b_M_fits 320 = .ok (.aload_n 0, 1) := by decide +kernel
theorem d_M_fits_321 : decode b_M_fits 321 = .ok (.getfield 195, 3) := by decide +kernel
theorem d_M_fits_324 : decode b_M_fits 324 = .ok (.baload, 1) := by decide +kernel
theorem d_M_fits_325 : decode b_M_fits 325 = .ok (.ireturn, 1) := by decide +kernel
theorem d_M_className_0 : decode b_M_className 0 = .ok (.aload_n 0, 1) := by decide +kernel
theorem d_M_className_1 : decode b_M_className 1 = .ok (.getfield 108, 3) := by decide +kernel
theorem d_M_className_4 : decode b_M_className 4 = .ok (.iconst 0, 1) := by decide +kernel
theorem d_M_className_5 : decode b_M_className 5 = .ok (.bipush 111, 2) := by decide +kernel
theorem d_M_className_7 : decode b_M_className 7 = .ok (.aload_n 0, 1) := by decide +kernel
theorem d_M_className_8 : decode b_M_className 8 = .ok (.getfield 19, 3) := by decide +kernel
theorem d_M_className_11 : decode b_M_className 11 = .ok (.iload_n 1, 1) := by decide +kernel
theorem d_M_className_12 : decode b_M_className 12 = .ok (.iaload, 1) := by decide +kernel
theorem d_M_className_13 : decode b_M_className 13 = .ok (.iadd, 1) := by decide +kernel
theorem d_M_className_14 : decode b_M_className 14 = .ok (.iastore, 1) := by decide +kernel
theorem d_M_className_15 : decode b_M_className 15 = .ok (.aload_n 0, 1) := by decide +kernel
theorem d_M_className_16 : decode b_M_className 16 = .ok (.getfield 108, 3) := by decide +kernel
theorem d_M_className_19 : decode b_M_className 19 = .ok (.iconst 1, 1) := by decide +kernel
theorem d_M_className_20 : decode b_M_className 20 = .ok (.bipush 46, 2) := by decide +kernel
theorem d_M_className_22 : decode b_M_className 22 = .ok (.iastore, 1) := by decide +kernel
theorem d_M_className_23 : decode b_M_className 23 = .ok (.aload_n 0, 1) := by decide +kernel
theorem d_M_className_24 : decode b_M_className 24 = .ok (.getfield 108, 3) := by decide +kernel
theorem d_M_className_27 : decode b_M_className 27 = .ok (.iconst 2, 1) := by decide +kernel
theorem d_M_className_28 : decode b_M_className 28 = .ok (.bipush 65, 2) := by decide +kernel
theorem d_M_className_30 : decode b_M_className 30 = .ok (.iload_n 1, 1) := by decide +kernel
theorem d_M_className_31 : decode b_M_className 31 = .ok (.iadd, 1) := by decide +kernel
theorem d_M_className_32 : decode b_M_className 32 = .ok (.iastore, 1) := by decide +kernel
theorem d_M_className_33 : decode b_M_className 33 = .ok (.aload_n 0, 1) := by decide +kernel
theorem d_M_className_34 : decode b_M_className 34 = .ok (.iconst 3, 1) := by decide +kernel
theorem d_M_className_35 : decode b_M_className 35 = .ok (.putfield 195, 3) := by decide +kernel
theorem d_M_className_38 : decode b_M_className 38 = .ok (.return_, 1) := by decide +kernel
theorem d_M_put_0 : decode b_M_put 0 = .ok (.aload_n 0, 1) := by decide +kernel
theorem d_M_put_1 : decode b_M_put 1 = .ok (.getfield 108, 3) := by decide +kernel
theorem d_M_put_4 : decode b_M_put 4 = .ok (.aload_n 0, 1) := by decide +kernel
theorem d_M_put_5 : decode b_M_put 5 = .ok (.getfield 195, 3) := by decide +kernel
theorem d_M_put_8 : decode b_M_put 8 = .ok (.iload_n 1, 1) := by decide +kernel
theorem d_M_put_9 : decode b_M_put 9 = .ok (.iastore, 1) := by decide +kernel
theorem d_M_put_10 : decode b_M_put 10 = .ok (.aload_n 0, 1) := by decide +kernel
theorem d_M_put_11 : decode b_M_put 11 = .ok (.dup, 1) := by decide +kernel
theorem d_M_put_12 : decode b_M_put 12 = .ok (.getfield 195, 3) := by decide +kernel
theorem d_M_put_15 : decode b_M_put 15 = .ok (.iconst 1, 1) := by decide +kernel
theorem d_M_put_16 : decode b_M_put 16 = .ok (.iadd, 1) := by decide +kernel
theorem d_M_put_17 : decode b_M_put 17 = .ok (.putfield 195, 3) := by decide +kernel
theorem d_M_put_20 : decode b_M_put 20 = .ok (.return_, 1) := by decide +kernel
theorem d_M_wordText_0 : decode b_M_wordText 0 = .ok (.aload_n 0, 1) := by decide +kernel
theorem d_M_wordText_1 : decode b_M_wordText 1 = .ok (.iconst 0, 1) := by decide +kernel
theorem d_M_wordText_2 : decode b_M_wordText 2 = .ok (.putfield 195, 3) := by decide +kernel
theorem d_M_wordText_5 : decode b_M_wordText 5 = .ok (.iload_n 1, 1) := by decide +kernel
theorem d_M_wordText_6 : decode b_M_wordText 6 = .ok (.bipush 6, 2) := by decide +kernel
theorem d_M_wordText_8 : decode b_M_wordText 8 = .ok (.if_icmp .ge 12, 3) := by decide +kernel
theorem d_M_wordText_11 : decode b_M_wordText 11 = .ok (.aload_n 0, 1) := by decide +kernel
theorem d_M_wordText_12 : decode b_M_wordText 12 = .ok (.bipush 114, 2) := by decide +kernel
theorem d_M_wordText_14 : decode b_M_wordText 14 = .ok (.iload_n 1, 1) := by decide +kernel
theorem d_M_wordText_15 : decode b_M_wordText 15 = .ok (.iadd, 1) := by decide +kernel
theorem d_M_wordText_16 : decode b_M_wordText 16 = .ok (.invokevirtual 198, 3) := by decide +kernel
theorem d_M_wordText_19 : decode b_M_wordText 19 = .ok (.return_, 1) := by decide +kernel
theorem d_M_wordText_20 : decode b_M_wordText 20 = .ok (.aload_n 0, 1) := by decide +kernel
theorem d_M_wordText_21 : decode b_M_wordText 21 = .ok (.bipush 60, 2) := by decide +kernel
theorem d_M_wordText_23 : decode b_M_wordText 23 = .ok (.invokevirtual 198, 3) := by decide +kernel
theorem d_M_wordText_26 : decode b_M_wordText 26 = .ok (.iload_n 1, 1) := by decide +kernel
theorem d_M_wordText_27 : decode b_M_wordText 27 = .ok (.bipush 7, 2) := by decide +kernel
theorem d_M_wordText_29 : decode b_M_wordText 29 = .ok (.if_icmp .ne 15, 3) := by decide +kernel
theorem d_M_wordText_32 : decode b_M_wordText 32 = .ok (.aload_n 0, 1) := by decide +kernel
theorem d_M_wordText_33 : decode b_M_wordText 33 = .ok (.bipush 99, 2) := by decide +kernel
theorem d_M_wordText_35 : decode b_M_wordText 35 = .ok (.invokevirtual 198, 3) := by decide +kernel
theorem d_M_wordText_38 : decode b_M_wordText 38 = .ok (.aload_n 0, 1) := by decide +kernel
theorem d_M_wordText_39 : decode b_M_wordText 39 = .ok (.bipush 108, 2) := by decide +kernel
theorem d_M_wordText_41 : decode b_M_wordText 41 = .ok (.invokevirtual 198, 3) := by decide +kernel
theorem d_M_wordText_44 : decode b_M_wordText 44 = .ok (.aload_n 0, 1) := by decide +kernel
theorem d_M_wordText_45 : decode b_M_wordText 45 = .ok (.bipush 105, 2) := by decide +kernel
theorem d_M_wordText_47 : decode b_M_wordText 47 = .ok (.invokevirtual 198, 3) := by decide +kernel
theorem d_M_wordText_50 : decode b_M_wordText 50 = .ok (.aload_n 0, 1) := by decide +kernel
theorem d_M_wordText_51 : decode b_M_wordText 51 = .ok (.bipush 110, 2) := by decide +kernel
theorem d_M_wordText_53 : decode b_M_wordText 53 = .ok (.invokevirtual 198, 3) := by decide +kernel
theorem d_M_wordText_56 : decode b_M_wordText 56 = .ok (.aload_n 0, 1) := by decide +kernel
theorem d_M_wordText_57 : decode b_M_wordText 57 = .ok (.bipush 105, 2) := by decide +kernel
theorem d_M_wordText_59 : decode b_M_wordText 59 = .ok (.invokevirtual 198, 3) := by decide +kernel
theorem d_M_wordText_62 : decode b_M_wordText 62 = .ok (.aload_n 0, 1) := by decide +kernel
theorem d_M_wordText_63 : decode b_M_wordText 63 = .ok (.bipush 116, 2) := by decide +kernel
theorem d_M_wordText_65 : decode b_M_wordText 65 = .ok (.invokevirtual 198, 3) := by decide +kernel
theorem d_M_wordText_68 : decode b_M_wordText 68 = .ok (.aload_n 0, 1) := by decide +kernel
theorem d_M_wordText_69 : decode b_M_wordText 69 = .ok (.bipush 62, 2) := by decide +kernel
theorem d_M_wordText_71 : decode b_M_wordText 71 = .ok (.invokevirtual 198, 3) := by decide +kernel
theorem d_M_wordText_74 : decode b_M_wordText 74 = .ok (.return_, 1) := by decide +kernel
theorem d_M_fitsUp_0 : decode b_M_fitsUp 0 = .ok (.aload_n 0, 1) := by decide +kernel
theorem d_M_fitsUp_1 : decode b_M_fitsUp 1 = .ok (.getfield 81, 3) := by decide +kernel
theorem d_M_fitsUp_4 : decode b_M_fitsUp 4 = .ok (.iload_n 1, 1) := by decide +kernel
theorem d_M_fitsUp_5 : decode b_M_fitsUp 5 = .ok (.iaload, 1) := by decide +kernel
theorem d_M_fitsUp_6 : decode b_M_fitsUp 6 = .ok (.ifCond .ge 5, 3) := by decide +kernel
theorem d_M_fitsUp_9 : decode b_M_fitsUp 9 = .ok (.iconst 1, 1) := by decide +kernel
theorem d_M_fitsUp_10 : decode b_M_fitsUp 10 = .ok (.ireturn, 1) := by decide +kernel
theorem d_M_fitsUp_11 : decode b_M_fitsUp 11 = .ok (.iconst 0, 1) := by decide +kernel
theorem d_M_fitsUp_12 : decode b_M_fitsUp 12 = .ok (.istore_n 3, 1) := by decide +kernel
theorem d_M_fitsUp_13 : decode b_M_fitsUp 13 = .ok (.iload_n 3, 1) := by decide +kernel
theorem d_M_fitsUp_14 : decode b_M_fitsUp 14 = .ok (.bipush 10, 2) := by decide +kernel
theorem d_M_fitsUp_16 : decode b_M_fitsUp 16 = .ok (.if_icmp .ge 56, 3) := by decide +kernel
theorem d_M_fitsUp_19 : decode b_M_fitsUp 19 = .ok (.aload_n 0, 1) := by decide +kernel
theorem d_M_fitsUp_20 : decode b_M_fitsUp 20 = .ok (.getfield 29, 3) := by decide +kernel
theorem d_M_fitsUp_23 : decode b_M_fitsUp 23 = .ok (.iload_n 2, 1) := by decide +kernel
theorem d_M_fitsUp_24 : decode b_M_fitsUp 24 = .ok (.iaload, 1) := by decide +kernel
theorem d_M_fitsUp_25 : decode b_M_fitsUp 25 = .ok (.iload_n 3, 1) := by decide +kernel
theorem d_M_fitsUp_26 : decode b_M_fitsUp 26 = .ok (.ishr, 1) := by decide +kernel
theorem d_M_fitsUp_27 : decode b_M_fitsUp 27 = .ok (.iconst 1, 1) := by decide +kernel
theorem d_M_fitsUp_28 : decode b_M_fitsUp 28 = .ok (.iand, 1) := by decide +kernel
theorem d_M_fitsUp_29 : decode b_M_fitsUp 29 = .ok (.ifCond .ne 6, 3) := by decide +kernel
theorem d_M_fitsUp_32 : decode b_M_fitsUp 32 = .ok (.goto 34, 3) := by decide +kernel
theorem d_M_fitsUp_35 : decode b_M_fitsUp 35 = .ok (.aload_n 0, 1) := by decide +kernel
theorem d_M_fitsUp_36 : decode b_M_fitsUp 36 = .ok (.iload_n 3, 1) := by decide +kernel
theorem d_M_fitsUp_37 : decode b_M_fitsUp 37 = .ok (.invokevirtual 202, 3) := by decide +kernel
theorem d_M_fitsUp_40 : decode b_M_fitsUp 40 = .ok (.aload_n 0, 1) := by decide +kernel
theorem d_M_fitsUp_41 : decode b_M_fitsUp 41 = .ok (.iload_n 1, 1) := by decide +kernel
theorem d_M_fitsUp_42 : decode b_M_fitsUp 42 = .ok (.aload_n 0, 1) := by decide +kernel
theorem d_M_fitsUp_43 : decode b_M_fitsUp 43 = .ok (.getfield 81, 3) := by decide +kernel
theorem d_M_fitsUp_46 : decode b_M_fitsUp 46 = .ok (.iload_n 1, 1) := by decide +kernel
theorem d_M_fitsUp_47 : decode b_M_fitsUp 47 = .ok (.iaload, 1) := by decide +kernel
theorem d_M_fitsUp_48 : decode b_M_fitsUp 48 = .ok (.aload_n 0, 1) := by decide +kernel
theorem d_M_fitsUp_49 : decode b_M_fitsUp 49 = .ok (.getfield 84, 3) := by decide +kernel
theorem d_M_fitsUp_52 : decode b_M_fitsUp 52 = .ok (.iload_n 1, 1) := by decide +kernel
theorem d_M_fitsUp_53 : decode b_M_fitsUp 53 = .ok (.iaload, 1) := by decide +kernel
theorem d_M_fitsUp_54 : decode b_M_fitsUp 54 = .ok (.invokevirtual 205, 3) := by decide +kernel
theorem d_M_fitsUp_57 : decode b_M_fitsUp 57 = .ok (.istore 4, 2) := by decide +kernel
theorem d_M_fitsUp_59 : decode b_M_fitsUp 59 = .ok (.iload 4, 2) := by decide +kernel
theorem d_M_fitsUp_61 : decode b_M_fitsUp 61 = .ok (.ifCond .eq 5, 3) := by decide +kernel
theorem d_M_fitsUp_64 : decode b_M_fitsUp 64 = .ok (.iconst 1, 1) := by decide +kernel
theorem d_M_fitsUp_65 : decode b_M_fitsUp 65 = .ok (.ireturn, 1) := by decide +kernel
theorem d_M_fitsUp_66 : decode b_M_fitsUp 66 = .ok (.iinc 3 1, 3) := by decide +kernel
theorem d_M_fitsUp_69 : decode b_M_fitsUp 69 = .ok (.goto (-56), 3) := by decide +kernel
theorem d_M_fitsUp_72 : decode b_M_fitsUp 72 = .ok (.iconst 0, 1) := by decide +kernel
theorem d_M_fitsUp_73 : decode b_M_fitsUp 73 = .ok (.ireturn, 1) := by decide +kernel
theorem d_M_isAbout_0 : decode b_M_isAbout 0 = .ok (.iload_n 2, 1) := by decide +kernel
theorem d_M_isAbout_1 : decode b_M_isAbout 1 = .ok (.ifCond .eq 12, 3) := by decide +kernel
theorem d_M_isAbout_4 : decode b_M_isAbout 4 = .ok (.aload_n 0, 1) := by decide +kernel
theorem d_M_isAbout_5 : decode b_M_isAbout 5 = .ok (.getfield 7, 3) := by decide +kernel
theorem d_M_isAbout_8 : decode b_M_isAbout 8 = .ok (.iload_n 2, 1) := by decide +kernel
theorem d_M_isAbout_9 : decode b_M_isAbout 9 = .ok (.baload, 1) := by decide +kernel
theorem d_M_isAbout_10 : decode b_M_isAbout 10 = .ok (.ifCond .ne 5, 3) := by decide +kernel
theorem d_M_isAbout_13 : decode b_M_isAbout 13 = .ok (.iconst 0, 1) := by decide +kernel
theorem d_M_isAbout_14 : decode b_M_isAbout 14 = .ok (.ireturn, 1) := by decide +kernel
theorem d_M_isAbout_15 : decode b_M_isAbout 15 = .ok (.aload_n 0, 1) := by decide +kernel
theorem d_M_isAbout_16 : decode b_M_isAbout 16 = .ok (.iload_n 2, 1) := by decide +kernel
theorem d_M_isAbout_17 : decode b_M_isAbout 17 = .ok (.invokevirtual 202, 3) := by decide +kernel
theorem d_M_isAbout_20 : decode b_M_isAbout 20 = .ok (.aload_n 0, 1) := by decide +kernel
theorem d_M_isAbout_21 : decode b_M_isAbout 21 = .ok (.iload_n 1, 1) := by decide +kernel
theorem d_M_isAbout_22 : decode b_M_isAbout 22 = .ok (.aload_n 0, 1) := by decide +kernel
theorem d_M_isAbout_23 : decode b_M_isAbout 23 = .ok (.getfield 75, 3) := by decide +kernel
theorem d_M_isAbout_26 : decode b_M_isAbout 26 = .ok (.iload_n 1, 1) := by decide +kernel
theorem d_M_isAbout_27 : decode b_M_isAbout 27 = .ok (.iaload, 1) := by decide +kernel
theorem d_M_isAbout_28 : decode b_M_isAbout 28 = .ok (.aload_n 0, 1) := by decide +kernel
theorem d_M_isAbout_29 : decode b_M_isAbout 29 = .ok (.getfield 78, 3) := by decide +kernel
theorem d_M_isAbout_32 : decode b_M_isAbout 32 = .ok (.iload_n 1, 1) := by decide +kernel
theorem d_M_isAbout_33 : decode b_M_isAbout 33 = .ok (.iaload, 1) := by decide +kernel
theorem d_M_isAbout_34 : decode b_M_isAbout 34 = .ok (.invokevirtual 205, 3) := by decide +kernel
theorem d_M_isAbout_37 : decode b_M_isAbout 37 = .ok (.ifCond .eq 16, 3) := by decide +kernel
theorem d_M_isAbout_40 : decode b_M_isAbout 40 = .ok (.aload_n 0, 1) := by decide +kernel
theorem d_M_isAbout_41 : decode b_M_isAbout 41 = .ok (.iload_n 1, 1) := by decide +kernel
theorem d_M_isAbout_42 : decode b_M_isAbout 42 = .ok (.iload_n 2, 1) := by decide +kernel
theorem d_M_isAbout_43 : decode b_M_isAbout 43 = .ok (.invokevirtual 208, 3) := by decide +kernel
theorem d_M_isAbout_46 : decode b_M_isAbout 46 = .ok (.ifCond .eq 7, 3) := by decide +kernel
theorem d_M_isAbout_49 : decode b_M_isAbout 49 = .ok (.iconst 1, 1) := by decide +kernel
theorem d_M_isAbout_50 : decode b_M_isAbout 50 = .ok (.goto 4, 3) := by decide +kernel
theorem d_M_isAbout_53 : decode b_M_isAbout 53 = .ok (.iconst 0, 1) := by decide +kernel
theorem d_M_isAbout_54 : decode b_M_isAbout 54 = .ok (.ireturn, 1) := by decide +kernel
theorem d_M_isMeant_0 : decode b_M_isMeant 0 = .ok (.aload_n 0, 1) := by decide +kernel
theorem d_M_isMeant_1 : decode b_M_isMeant 1 = .ok (.getfield 44, 3) := by decide +kernel
theorem d_M_isMeant_4 : decode b_M_isMeant 4 = .ok (.iload_n 2, 1) := by decide +kernel
theorem d_M_isMeant_5 : decode b_M_isMeant 5 = .ok (.baload, 1) := by decide +kernel
theorem d_M_isMeant_6 : decode b_M_isMeant 6 = .ok (.ifCond .ne 22, 3) := by decide +kernel
theorem d_M_isMeant_9 : decode b_M_isMeant 9 = .ok (.aload_n 0, 1) := by decide +kernel
theorem d_M_isMeant_10 : decode b_M_isMeant 10 = .ok (.getfield 129, 3) := by decide +kernel
theorem d_M_isMeant_13 : decode b_M_isMeant 13 = .ok (.bipush 10, 2) := by decide +kernel
theorem d_M_isMeant_15 : decode b_M_isMeant 15 = .ok (.iload_n 1, 1) := by decide +kernel
theorem d_M_isMeant_16 : decode b_M_isMeant 16 = .ok (.imul, 1) := by decide +kernel
theorem d_M_isMeant_17 : decode b_M_isMeant 17 = .ok (.aload_n 0, 1) := by decide +kernel
theorem d_M_isMeant_18 : decode b_M_isMeant 18 = .ok (.getfield 32, 3) := by decide +kernel
theorem d_M_isMeant_21 : decode b_M_isMeant 21 = .ok (.iload_n 2, 1) := by decide +kernel
theorem d_M_isMeant_22 : decode b_M_isMeant 22 = .ok (.iaload, 1) := by decide +kernel
theorem d_M_isMeant_23 : decode b_M_isMeant 23 = .ok (.iadd, 1) := by decide +kernel
theorem d_M_isMeant_24 : decode b_M_isMeant 24 = .ok (.baload, 1) := by decide +kernel
theorem d_M_isMeant_25 : decode b_M_isMeant 25 = .ok (.ifCond .ne 5, 3) := by decide +kernel
theorem d_M_isMeant_28 : decode b_M_isMeant 28 = .ok (.iconst 0, 1) := by decide +kernel
theorem d_M_isMeant_29 : decode b_M_isMeant 29 = .ok (.ireturn, 1) := by decide +kernel
theorem d_M_isMeant_30 : decode b_M_isMeant 30 = .ok (.aload_n 0, 1) := by decide +kernel
theorem d_M_isMeant_31 : decode b_M_isMeant 31 = .ok (.aload_n 0, 1) := by decide +kernel
theorem d_M_isMeant_32 : decode b_M_isMeant 32 = .ok (.getfield 35, 3) := by decide +kernel
theorem d_M_isMeant_35 : decode b_M_isMeant 35 = .ok (.iload_n 2, 1) := by decide +kernel
theorem d_M_isMeant_36 : decode b_M_isMeant 36 = .ok (.iaload, 1) := by decide +kernel
theorem d_M_isMeant_37 : decode b_M_isMeant 37 = .ok (.invokevirtual 211, 3) := by decide +kernel
theorem d_M_isMeant_40 : decode b_M_isMeant 40 = .ok (.iconst 0, 1) := by decide +kernel
theorem d_M_isMeant_41 : decode b_M_isMeant 41 = .ok (.istore_n 3, 1) := by decide +kernel
theorem d_M_isMeant_42 : decode b_M_isMeant 42 = .ok (.iload_n 3, 1) := by decide +kernel
theorem d_M_isMeant_43 : decode b_M_isMeant 43 = .ok (.aload_n 0, 1) := by decide +kernel
theorem d_M_isMeant_44 : decode b_M_isMeant 44 = .ok (.getfield 87, 3) := by decide +kernel
theorem d_M_isMeant_47 : decode b_M_isMeant 47 = .ok (.iload_n 1, 1) := by decide +kernel
theorem d_M_isMeant_48 : decode b_M_isMeant 48 = .ok (.iaload, 1) := by decide +kernel
theorem d_M_isMeant_49 : decode b_M_isMeant 49 = .ok (.if_icmp .ge 85, 3) := by decide +kernel
theorem d_M_isMeant_52 : decode b_M_isMeant 52 = .ok (.aload_n 0, 1) := by decide +kernel
theorem d_M_isMeant_53 : decode b_M_isMeant 53 = .ok (.getfield 90, 3) := by decide +kernel
theorem d_M_isMeant_56 : decode b_M_isMeant 56 = .ok (.bipush 16, 2) := by decide +kernel
theorem d_M_isMeant_58 : decode b_M_isMeant 58 = .ok (.iload_n 1, 1) := by decide +kernel
theorem d_M_isMeant_59 : decode b_M_isMeant 59 = .ok (.imul, 1) := by decide +kernel
theorem d_M_isMeant_60 : decode b_M_isMeant 60 = .ok (.iload_n 3, 1) := by decide +kernel
theorem d_M_isMeant_61 : decode b_M_isMeant 61 = .ok (.iadd, 1) := by decide +kernel
theorem d_M_isMeant_62 : decode b_M_isMeant 62 = .ok (.iaload, 1) := by decide +kernel
theorem d_M_isMeant_63 : decode b_M_isMeant 63 = .ok (.istore 4, 2) := by decide +kernel
theorem d_M_isMeant_65 : decode b_M_isMeant 65 = .ok (.iload 4, 2) := by decide +kernel
theorem d_M_isMeant_67 : decode b_M_isMeant 67 = .ok (.aload_n 0, 1) := by decide +kernel
theorem d_M_isMeant_68 : decode b_M_isMeant 68 = .ok (.getfield 41, 3) := by decide +kernel
theorem d_M_isMeant_71 : decode b_M_isMeant 71 = .ok (.iload_n 2, 1) := by decide +kernel
theorem d_M_isMeant_72 : decode b_M_isMeant 72 = .ok (.iaload, 1) := by decide +kernel
theorem d_M_isMeant_73 : decode b_M_isMeant 73 = .ok (.iconst 1, 1) := by decide +kernel
theorem d_M_isMeant_74 : decode b_M_isMeant 74 = .ok (.iand, 1) := by decide +kernel
theorem d_M_isMeant_75 : decode b_M_isMeant 75 = .ok (.iconst 1, 1) := by decide +kernel
theorem d_M_isMeant_76 : decode b_M_isMeant 76 = .ok (.if_icmp .ne 8, 3) := by decide +kernel
theorem d_M_isMeant_79 : decode b_M_isMeant 79 = .ok (.bipush 102, 2) := by decide +kernel
theorem d_M_isMeant_81 : decode b_M_isMeant 81 = .ok (.goto 5, 3) := by decide +kernel
theorem d_M_isMeant_84 : decode b_M_isMeant 84 = .ok (.bipush 109, 2) := by decide +kernel
theorem d_M_isMeant_86 : decode b_M_isMeant 86 = .ok (.if_icmp .ne 6, 3) := by decide +kernel
theorem d_M_isMeant_89 : decode b_M_isMeant 89 = .ok (.goto 39, 3) := by decide +kernel
theorem d_M_isMeant_92 : decode b_M_isMeant 92 = .ok (.aload_n 0, 1) := by decide +kernel
theorem d_M_isMeant_93 : decode b_M_isMeant 93 = .ok (.iload_n 1, 1) := by decide +kernel
theorem d_M_isMeant_94 : decode b_M_isMeant 94 = .ok (.aload_n 0, 1) := by decide +kernel
theorem d_M_isMeant_95 : decode b_M_isMeant 95 = .ok (.getfield 93, 3) := by decide +kernel
theorem d_M_isMeant_98 : decode b_M_isMeant 98 = .ok (.bipush 16, 2) := by decide +kernel
theorem d_M_isMeant_100 : decode b_M_isMeant 100 = .ok (.iload_n 1, 1) := by decide +kernel
theorem d_M_isMeant_101 : decode b_M_isMeant 101 = .ok (.imul, 1) := by decide +kernel
theorem d_M_isMeant_102 : decode b_M_isMeant 102 = .ok (.iload_n 3, 1) := by decide +kernel
theorem d_M_isMeant_103 : decode b_M_isMeant 103 = .ok (.iadd, 1) := by decide +kernel
theorem d_M_isMeant_104 : decode b_M_isMeant 104 = .ok (.iaload, 1) := by decide +kernel
theorem d_M_isMeant_105 : decode b_M_isMeant 105 = .ok (.aload_n 0, 1) := by decide +kernel
theorem d_M_isMeant_106 : decode b_M_isMeant 106 = .ok (.getfield 96, 3) := by decide +kernel
theorem d_M_isMeant_109 : decode b_M_isMeant 109 = .ok (.bipush 16, 2) := by decide +kernel
theorem d_M_isMeant_111 : decode b_M_isMeant 111 = .ok (.iload_n 1, 1) := by decide +kernel
theorem d_M_isMeant_112 : decode b_M_isMeant 112 = .ok (.imul, 1) := by decide +kernel
theorem d_M_isMeant_113 : decode b_M_isMeant 113 = .ok (.iload_n 3, 1) := by decide +kernel
theorem d_M_isMeant_114 : decode b_M_isMeant 114 = .ok (.iadd, 1) := by decide +kernel
theorem d_M_isMeant_115 : decode b_M_isMeant 115 = .ok (.iaload, 1) := by decide +kernel
theorem d_M_isMeant_116 : decode b_M_isMeant 116 = .ok (.invokevirtual 205, 3) := by decide +kernel
theorem d_M_isMeant_119 : decode b_M_isMeant 119 = .ok (.istore 5, 2) := by decide +kernel
theorem d_M_isMeant_121 : decode b_M_isMeant 121 = .ok (.iload 5, 2) := by decide +kernel
theorem d_M_isMeant_123 : decode b_M_isMeant 123 = .ok (.ifCond .eq 5, 3) := by decide +kernel
theorem d_M_isMeant_126 : decode b_M_isMeant 126 = .ok (.iconst 1, 1) := by decide +kernel
theorem d_M_isMeant_127 : decode b_M_isMeant 127 = .ok (.ireturn, 1) := by decide +kernel
theorem d_M_isMeant_128 : decode b_M_isMeant 128 = .ok (.iinc 3 1, 3) := by decide +kernel
theorem d_M_isMeant_131 : decode b_M_isMeant 131 = .ok (.goto (-89), 3) := by decide +kernel
theorem d_M_isMeant_134 : decode b_M_isMeant 134 = .ok (.iconst 0, 1) := by decide +kernel
theorem d_M_isMeant_135 : decode b_M_isMeant 135 = .ok (.ireturn, 1) := by decide +kernel
theorem d_M_superOf_0 : decode b_M_superOf 0 = .ok (.iload_n 1, 1) := by decide +kernel
theorem d_M_superOf_1 : decode b_M_superOf 1 = .ok (.ifCond .ne 7, 3) := by decide +kernel
theorem d_M_superOf_4 : decode b_M_superOf 4 = .ok (.iconst (-1), 1) := by decide +kernel
theorem d_M_superOf_5 : decode b_M_superOf 5 = .ok (.goto 50, 3) := by decide +kernel
theorem d_M_superOf_8 : decode b_M_superOf 8 = .ok (.aload_n 0, 1) := by decide +kernel
theorem d_M_superOf_9 : decode b_M_superOf 9 = .ok (.getfield 13, 3) := by decide +kernel
theorem d_M_superOf_12 : decode b_M_superOf 12 = .ok (.iload_n 1, 1) := by decide +kernel
theorem d_M_superOf_13 : decode b_M_superOf 13 = .ok (.baload, 1) := by decide +kernel
theorem d_M_superOf_14 : decode b_M_superOf 14 = .ok (.ifCond .ne 31, 3) := by decide +kernel
theorem d_M_superOf_17 : decode b_M_superOf 17 = .ok (.aload_n 0, 1) := by decide +kernel
theorem d_M_superOf_18 : decode b_M_superOf 18 = .ok (.getfield 7, 3) := by decide +kernel
theorem d_M_superOf_21 : decode b_M_superOf 21 = .ok (.aload_n 0, 1) := by decide +kernel
theorem d_M_superOf_22 : decode b_M_superOf 22 = .ok (.getfield 23, 3) := by decide +kernel
theorem d_M_superOf_25 : decode b_M_superOf 25 = .ok (.iload_n 1, 1) := by decide +kernel
theorem d_M_superOf_26 : decode b_M_superOf 26 = .ok (.iaload, 1) := by decide +kernel
theorem d_M_superOf_27 : decode b_M_superOf 27 = .ok (.baload, 1) := by decide +kernel
theorem d_M_superOf_28 : decode b_M_superOf 28 = .ok (.ifCond .eq 17, 3) := by decide +kernel
theorem d_M_superOf_31 : decode b_M_superOf 31 = .ok (.aload_n 0, 1) := by decide +kernel
theorem d_M_superOf_32 : decode b_M_superOf 32 = .ok (.getfield 13, 3) := by decide +kernel
theorem d_M_superOf_35 : decode b_M_superOf 35 = .ok (.aload_n 0, 1) := by decide +kernel
theorem d_M_superOf_36 : decode b_M_superOf 36 = .ok (.getfield 23, 3) := by decide +kernel
theorem d_M_superOf_39 : decode b_M_superOf 39 = .ok (.iload_n 1, 1) := by decide +kernel
theorem d_M_superOf_40 : decode b_M_superOf 40 = .ok (.iaload, 1) := by decide +kernel
theorem d_M_superOf_41 : decode b_M_superOf 41 = .ok (.baload, 1) := by decide +kernel
theorem d_M_superOf_42 : decode b_M_superOf 42 = .ok (.ifCond .eq 7, 3) := by decide +kernel
theorem d_M_superOf_45 : decode b_M_superOf 45 = .ok (.iconst 0, 1) := by decide +kernel
theorem d_M_superOf_46 : decode b_M_superOf 46 = .ok (.goto 9, 3) := by decide +kernel
theorem d_M_superOf_49 : decode b_M_superOf 49 = .ok (.aload_n 0, 1) := by decide +kernel
theorem d_M_superOf_50 : decode b_M_superOf 50 = .ok (.getfield 23, 3) := by decide +kernel
theorem d_M_superOf_53 : decode b_M_superOf 53 = .ok (.iload_n 1, 1) := by decide +kernel
theorem d_M_superOf_54 : decode b_M_superOf 54 = .ok (.iaload, 1) := by decide +kernel
theorem d_M_superOf_55 : decode b_M_superOf 55 = .ok (.ireturn, 1) := by decide +kernel
theorem d_M_hasFace_0 : decode b_M_hasFace 0 = .ok (.aload_n 0, 1) := by decide +kernel
theorem d_M_hasFace_1 : decode b_M_hasFace 1 = .ok (.getfield 26, 3) := by decide +kernel
theorem d_M_hasFace_4 : decode b_M_hasFace 4 = .ok (.iload_n 1, 1) := by decide +kernel
theorem d_M_hasFace_5 : decode b_M_hasFace 5 = .ok (.iaload, 1) := by decide +kernel
theorem d_M_hasFace_6 : decode b_M_hasFace 6 = .ok (.iload_n 2, 1) := by decide +kernel
theorem d_M_hasFace_7 : decode b_M_hasFace 7 = .ok (.ishr, 1) := by decide +kernel
theorem d_M_hasFace_8 : decode b_M_hasFace 8 = .ok (.iconst 1, 1) := by decide +kernel
theorem d_M_hasFace_9 : decode b_M_hasFace 9 = .ok (.iand, 1) := by decide +kernel
theorem d_M_hasFace_10 : decode b_M_hasFace 10 = .ok (.iconst 1, 1) := by decide +kernel
theorem d_M_hasFace_11 : decode b_M_hasFace 11 = .ok (.if_icmp .ne 25, 3) := by decide +kernel
theorem d_M_hasFace_14 : decode b_M_hasFace 14 = .ok (.aload_n 0, 1) := by decide +kernel
theorem d_M_hasFace_15 : decode b_M_hasFace 15 = .ok (.getfield 7, 3) := by decide +kernel
theorem d_M_hasFace_18 : decode b_M_hasFace 18 = .ok (.iload_n 2, 1) := by decide +kernel
theorem d_M_hasFace_19 : decode b_M_hasFace 19 = .ok (.baload, 1) := by decide +kernel
theorem d_M_hasFace_20 : decode b_M_hasFace 20 = .ok (.ifCond .eq 16, 3) := by decide +kernel
theorem d_M_hasFace_23 : decode b_M_hasFace 23 = .ok (.aload_n 0, 1) := by decide +kernel
theorem d_M_hasFace_24 : decode b_M_hasFace 24 = .ok (.getfield 13, 3) := by decide +kernel
theorem d_M_hasFace_27 : decode b_M_hasFace 27 = .ok (.iload_n 2, 1) := by decide +kernel
theorem d_M_hasFace_28 : decode b_M_hasFace 28 = .ok (.baload, 1) := by decide +kernel
theorem d_M_hasFace_29 : decode b_M_hasFace 29 = .ok (.ifCond .eq 7, 3) := by decide +kernel
theorem d_M_hasFace_32 : decode b_M_hasFace 32 = .ok (.iconst 1, 1) := by decide +kernel
theorem d_M_hasFace_33 : decode b_M_hasFace 33 = .ok (.goto 4, 3) := by decide +kernel
theorem d_M_hasFace_36 : decode b_M_hasFace 36 = .ok (.iconst 0, 1) := by decide +kernel
theorem d_M_hasFace_37 : decode b_M_hasFace 37 = .ok (.ireturn, 1) := by decide +kernel
theorem d_M_order_0 : decode b_M_order 0 = .ok (.aload_n 0, 1) := by decide +kernel
theorem d_M_order_1 : decode b_M_order 1 = .ok (.getfield 29, 3) := by decide +kernel
theorem d_M_order_4 : decode b_M_order 4 = .ok (.iconst 0, 1) := by decide +kernel
theorem d_M_order_5 : decode b_M_order 5 = .ok (.iconst 0, 1) := by decide +kernel
theorem d_M_order_6 : decode b_M_order 6 = .ok (.iastore, 1) := by decide +kernel
theorem d_M_order_7 : decode b_M_order 7 = .ok (.iconst 1, 1) := by decide +kernel
theorem d_M_order_8 : decode b_M_order 8 = .ok (.istore_n 1, 1) := by decide +kernel
theorem d_M_order_9 : decode b_M_order 9 = .ok (.iload_n 1, 1) := by decide +kernel
theorem d_M_order_10 : decode b_M_order 10 = .ok (.bipush 10, 2) := by decide +kernel
theorem d_M_order_12 : decode b_M_order 12 = .ok (.if_icmp .ge 73, 3) := by decide +kernel
theorem d_M_order_15 : decode b_M_order 15 = .ok (.aload_n 0, 1) := by decide +kernel
theorem d_M_order_16 : decode b_M_order 16 = .ok (.iload_n 1, 1) := by decide +kernel
theorem d_M_order_17 : decode b_M_order 17 = .ok (.invokevirtual 214, 3) := by decide +kernel
theorem d_M_order_20 : decode b_M_order 20 = .ok (.istore_n 2, 1) := by decide +kernel
theorem d_M_order_21 : decode b_M_order 21 = .ok (.iconst 1, 1) := by decide +kernel
theorem d_M_order_22 : decode b_M_order 22 = .ok (.iload_n 2, 1) := by decide +kernel
theorem d_M_order_23 : decode b_M_order 23 = .ok (.ishl, 1) := by decide +kernel
theorem d_M_order_24 : decode b_M_order 24 = .ok (.aload_n 0, 1) := by decide +kernel
theorem d_M_order_25 : decode b_M_order 25 = .ok (.getfield 29, 3) := by decide +kernel
theorem d_M_order_28 : decode b_M_order 28 = .ok (.iload_n 2, 1) := by decide +kernel
theorem d_M_order_29 : decode b_M_order 29 = .ok (.iaload, 1) := by decide +kernel
theorem d_M_order_30 : decode b_M_order 30 = .ok (.ior, 1) := by decide +kernel
theorem d_M_order_31 : decode b_M_order 31 = .ok (.istore_n 3, 1) := by decide +kernel
theorem d_M_order_32 : decode b_M_order 32 = .ok (.iconst 1, 1) := by decide +kernel
theorem d_M_order_33 : decode b_M_order 33 = .ok (.istore 4, 2) := by decide +kernel
theorem d_M_order_35 : decode b_M_order 35 = .ok (.iload 4, 2) := by decide +kernel
theorem d_M_order_37 : decode b_M_order 37 = .ok (.iload_n 1, 1) := by decide +kernel
theorem d_M_order_38 : decode b_M_order 38 = .ok (.if_icmp .ge 34, 3) := by decide +kernel
theorem d_M_order_41 : decode b_M_order 41 = .ok (.aload_n 0, 1) := by decide +kernel
theorem d_M_order_42 : decode b_M_order 42 = .ok (.iload_n 1, 1) := by decide +kernel
theorem d_M_order_43 : decode b_M_order 43 = .ok (.iload 4, 2) := by decide +kernel
theorem d_M_order_45 : decode b_M_order 45 = .ok (.invokevirtual 217, 3) := by decide +kernel
theorem d_M_order_48 : decode b_M_order 48 = .ok (.ifCond .eq 18, 3) := by decide +kernel
theorem d_M_order_51 : decode b_M_order 51 = .ok (.iload_n 3, 1) := by decide +kernel
theorem d_M_order_52 : decode b_M_order 52 = .ok (.iconst 1, 1) := by decide +kernel
theorem d_M_order_53 : decode b_M_order 53 = .ok (.iload 4, 2) := by decide +kernel
theorem d_M_order_55 : decode b_M_order 55 = .ok (.ishl, 1) := by decide +kernel
theorem d_M_order_56 : decode b_M_order 56 = .ok (.aload_n 0, 1) := by decide +kernel
theorem d_M_order_57 : decode b_M_order 57 = .ok (.getfield 29, 3) := by decide +kernel
theorem d_M_order_60 : decode b_M_order 60 = .ok (.iload 4, 2) := by decide +kernel
theorem d_M_order_62 : decode b_M_order 62 = .ok (.iaload, 1) := by decide +kernel
theorem d_M_order_63 : decode b_M_order 63 = .ok (.ior, 1) := by decide +kernel
theorem d_M_order_64 : decode b_M_order 64 = .ok (.ior, 1) := by decide +kernel
theorem d_M_order_65 : decode b_M_order 65 = .ok (.istore_n 3, 1) := by decide +kernel
theorem d_M_order_66 : decode b_M_order 66 = .ok (.iinc 4 1, 3) := by decide +kernel
theorem d_M_order_69 : decode b_M_order 69 = .ok (.goto (-34), 3) := by decide +kernel
theorem d_M_order_72 : decode b_M_order 72 = .ok (.aload_n 0, 1) := by decide +kernel
theorem d_M_order_73 : decode b_M_order 73 = .ok (.getfield 29, 3) := by decide +kernel
theorem d_M_order_76 : decode b_M_order 76 = .ok (.iload_n 1, 1) := by decide +kernel
theorem d_M_order_77 : decode b_M_order 77 = .ok (.iload_n 3, 1) := by decide +kernel
theorem d_M_order_78 : decode b_M_order 78 = .ok (.iastore, 1) := by decide +kernel
theorem d_M_order_79 : decode b_M_order 79 = .ok (.iinc 1 1, 3) := by decide +kernel
theorem d_M_order_82 : decode b_M_order 82 = .ok (.goto (-73), 3) := by decide +kernel
theorem d_M_order_85 : decode b_M_order 85 = .ok (.return_, 1) := by decide +kernel
theorem d_M_isWanted_0 : decode b_M_isWanted 0 = .ok (.iload_n 1, 1) := by decide +kernel
theorem d_M_isWanted_1 : decode b_M_isWanted 1 = .ok (.ifCond .lt 36, 3) := by decide +kernel
theorem d_M_isWanted_4 : decode b_M_isWanted 4 = .ok (.iload_n 2, 1) := by decide +kernel
theorem d_M_isWanted_5 : decode b_M_isWanted 5 = .ok (.ifCond .eq 15, 3) := by decide +kernel
theorem d_M_isWanted_8 : decode b_M_isWanted 8 = .ok (.aload_n 0, 1) := by decide +kernel
theorem d_M_isWanted_9 : decode b_M_isWanted 9 = .ok (.getfield 41, 3) := by decide +kernel
theorem d_M_isWanted_12 : decode b_M_isWanted 12 = .ok (.iload_n 1, 1) := by decide +kernel
theorem d_M_isWanted_13 : decode b_M_isWanted 13 = .ok (.iaload, 1) := by decide +kernel
theorem d_M_isWanted_14 : decode b_M_isWanted 14 = .ok (.bipush 6, 2) := by decide +kernel
theorem d_M_isWanted_16 : decode b_M_isWanted 16 = .ok (.iand, 1) := by decide +kernel
theorem d_M_isWanted_17 : decode b_M_isWanted 17 = .ok (.ifCond .ne 20, 3) := by decide +kernel
theorem d_M_isWanted_20 : decode b_M_isWanted 20 = .ok (.iload_n 3, 1) := by decide +kernel
theorem d_M_isWanted_21 : decode b_M_isWanted 21 = .ok (.ifCond .eq 12, 3) := by decide +kernel
theorem d_M_isWanted_24 : decode b_M_isWanted 24 = .ok (.aload_n 0, 1) := by decide +kernel
theorem d_M_isWanted_25 : decode b_M_isWanted 25 = .ok (.getfield 126, 3) := by decide +kernel
theorem d_M_isWanted_28 : decode b_M_isWanted 28 = .ok (.iload_n 1, 1) := by decide +kernel
theorem d_M_isWanted_29 : decode b_M_isWanted 29 = .ok (.baload, 1) := by decide +kernel
theorem d_M_isWanted_30 : decode b_M_isWanted 30 = .ok (.ifCond .eq 7, 3) := by decide +kernel
theorem d_M_isWanted_33 : decode b_M_isWanted 33 = .ok (.iconst 1, 1) := by decide +kernel
theorem d_M_isWanted_34 : decode b_M_isWanted 34 = .ok (.goto 4, 3) := by decide +kernel
theorem d_M_isWanted_37 : decode b_M_isWanted 37 = .ok (.iconst 0, 1) := by decide +kernel
theorem d_M_isWanted_38 : decode b_M_isWanted 38 = .ok (.ireturn, 1) := by decide +kernel
theorem d_M_look_0 : decode b_M_look 0 = .ok (.iload_n 1, 1) := by decide +kernel
theorem d_M_look_1 : decode b_M_look 1 = .ok (.istore 7, 2) := by decide +kernel
theorem d_M_look_3 : decode b_M_look 3 = .ok (.iload 7, 2) := by decide +kernel
theorem d_M_look_5 : decode b_M_look 5 = .ok (.ifCond .lt 42, 3) := by decide +kernel
theorem d_M_look_8 : decode b_M_look 8 = .ok (.aload_n 0, 1) := by decide +kernel
theorem d_M_look_9 : decode b_M_look 9 = .ok (.iload 7, 2) := by decide +kernel
theorem d_M_look_11 : decode b_M_look 11 = .ok (.iload_n 2, 1) := by decide +kernel
theorem d_M_look_12 : decode b_M_look 12 = .ok (.iload_n 3, 1) := by decide +kernel
theorem d_M_look_13 : decode b_M_look 13 = .ok (.iload 4, 2) := by decide +kernel
theorem d_M_look_15 : decode b_M_look 15 = .ok (.invokevirtual 139, 3) := by decide +kernel
theorem d_M_look_18 : decode b_M_look 18 = .ok (.istore 8, 2) := by decide +kernel
theorem d_M_look_20 : decode b_M_look 20 = .ok (.aload_n 0, 1) := by decide +kernel
theorem d_M_look_21 : decode b_M_look 21 = .ok (.iload 8, 2) := by decide +kernel
theorem d_M_look_23 : decode b_M_look 23 = .ok (.iload 5, 2) := by decide +kernel
theorem d_M_look_25 : decode b_M_look 25 = .ok (.iload 6, 2) := by decide +kernel
theorem d_M_look_27 : decode b_M_look 27 = .ok (.invokevirtual 220, 3) := by decide +kernel
theorem d_M_look_30 : decode b_M_look 30 = .ok (.ifCond .eq 6, 3) := by decide +kernel
theorem d_M_look_33 : decode b_M_look 33 = .ok (.iload 8, 2) := by decide +kernel
theorem d_M_look_35 : decode b_M_look 35 = .ok (.ireturn, 1) := by decide +kernel
theorem d_M_look_36 : decode b_M_look 36 = .ok (.aload_n 0, 1) := by decide +kernel
theorem d_M_look_37 : decode b_M_look 37 = .ok (.iload 7, 2) := by decide +kernel
theorem d_M_look_39 : decode b_M_look 39 = .ok (.invokevirtual 214, 3) := by decide +kernel
theorem d_M_look_42 : decode b_M_look 42 = .ok (.istore 7, 2) := by decide +kernel
theorem d_M_look_44 : decode b_M_look 44 = .ok (.goto (-41), 3) := by decide +kernel
theorem d_M_look_47 : decode b_M_look 47 = .ok (.iconst 0, 1) := by decide +kernel
theorem d_M_look_48 : decode b_M_look 48 = .ok (.istore 7, 2) := by decide +kernel
theorem d_M_look_50 : decode b_M_look 50 = .ok (.iload 7, 2) := by decide +kernel
theorem d_M_look_52 : decode b_M_look 52 = .ok (.aload_n 0, 1) := by decide +kernel
theorem d_M_look_53 : decode b_M_look 53 = .ok (.getfield 47, 3) := by decide +kernel
theorem d_M_look_56 : decode b_M_look 56 = .ok (.if_icmp .ge 107, 3) := by decide +kernel
theorem d_M_look_59 : decode b_M_look 59 = .ok (.aload_n 0, 1) := by decide +kernel
theorem d_M_look_60 : decode b_M_look 60 = .ok (.getfield 32, 3) := by decide +kernel
theorem d_M_look_63 : decode b_M_look 63 = .ok (.iload 7, 2) := by decide +kernel
theorem d_M_look_65 : decode b_M_look 65 = .ok (.iaload, 1) := by decide +kernel
theorem d_M_look_66 : decode b_M_look 66 = .ok (.istore 8, 2) := by decide +kernel
theorem d_M_look_68 : decode b_M_look 68 = .ok (.aload_n 0, 1) := by decide +kernel
theorem d_M_look_69 : decode b_M_look 69 = .ok (.getfield 44, 3) := by decide +kernel
theorem d_M_look_72 : decode b_M_look 72 = .ok (.iload 7, 2) := by decide +kernel
theorem d_M_look_74 : decode b_M_look 74 = .ok (.baload, 1) := by decide +kernel
theorem d_M_look_75 : decode b_M_look 75 = .ok (.ifCond .ne 82, 3) := by decide +kernel
theorem d_M_look_78 : decode b_M_look 78 = .ok (.aload_n 0, 1) := by decide +kernel
theorem d_M_look_79 : decode b_M_look 79 = .ok (.getfield 29, 3) := by decide +kernel
theorem d_M_look_82 : decode b_M_look 82 = .ok (.iload_n 1, 1) := by decide +kernel
theorem d_M_look_83 : decode b_M_look 83 = .ok (.iaload, 1) := by decide +kernel
theorem d_M_look_84 : decode b_M_look 84 = .ok (.iload 8, 2) := by decide +kernel
theorem d_M_look_86 : decode b_M_look 86 = .ok (.ishr, 1) := by decide +kernel
theorem d_M_look_87 : decode b_M_look 87 = .ok (.iconst 1, 1) := by decide +kernel
theorem d_M_look_88 : decode b_M_look 88 = .ok (.iand, 1) := by decide +kernel
theorem d_M_look_89 : decode b_M_look 89 = .ok (.ifCond .eq 68, 3) := by decide +kernel
theorem d_M_look_92 : decode b_M_look 92 = .ok (.aload_n 0, 1) := by decide +kernel
theorem d_M_look_93 : decode b_M_look 93 = .ok (.getfield 13, 3) := by decide +kernel
theorem d_M_look_96 : decode b_M_look 96 = .ok (.iload 8, 2) := by decide +kernel
theorem d_M_look_98 : decode b_M_look 98 = .ok (.baload, 1) := by decide +kernel
theorem d_M_look_99 : decode b_M_look 99 = .ok (.ifCond .eq 58, 3) := by decide +kernel
theorem d_M_look_102 : decode b_M_look 102 = .ok (.aload_n 0, 1) := by decide +kernel
theorem d_M_look_103 : decode b_M_look 103 = .ok (.getfield 41, 3) := by decide +kernel
theorem d_M_look_106 : decode b_M_look 106 = .ok (.iload 7, 2) := by decide +kernel
theorem d_M_look_108 : decode b_M_look 108 = .ok (.iaload, 1) := by decide +kernel
theorem d_M_look_109 : decode b_M_look 109 = .ok (.iconst 1, 1) := by decide +kernel
theorem d_M_look_110 : decode b_M_look 110 = .ok (.iand, 1) := by decide +kernel
theorem d_M_look_111 : decode b_M_look 111 = .ok (.iload_n 2, 1) := by decide +kernel
theorem d_M_look_112 : decode b_M_look 112 = .ok (.if_icmp .ne 45, 3) := by decide +kernel
theorem d_M_look_115 : decode b_M_look 115 = .ok (.aload_n 0, 1) := by decide +kernel
theorem d_M_look_116 : decode b_M_look 116 = .ok (.getfield 35, 3) := by decide +kernel
theorem d_M_look_119 : decode b_M_look 119 = .ok (.iload 7, 2) := by decide +kernel
theorem d_M_look_121 : decode b_M_look 121 = .ok (.iaload, 1) := by decide +kernel
theorem d_M_look_122 : decode b_M_look 122 = .ok (.iload_n 3, 1) := by decide +kernel
theorem d_M_look_123 : decode b_M_look 123 = .ok (.if_icmp .ne 34, 3) := by decide +kernel
theorem d_M_look_126 : decode b_M_look 126 = .ok (.aload_n 0, 1) := by decide +kernel
theorem d_M_look_127 : decode b_M_look 127 = .ok (.getfield 38, 3) := by decide +kernel
theorem d_M_look_130 : decode b_M_look 130 = .ok (.iload 7, 2) := by decide +kernel
theorem d_M_look_132 : decode b_M_look 132 = .ok (.iaload, 1) := by decide +kernel
theorem d_M_look_133 : decode b_M_look 133 = .ok (.iload 4, 2) := by decide +kernel
theorem d_M_look_135 : decode b_M_look 135 = .ok (.if_icmp .eq 6, 3) := by decide +kernel
theorem d_M_look_138 : decode b_M_look 138 = .ok (.goto 19, 3) := by decide +kernel
theorem d_M_look_141 : decode b_M_look 141 = .ok (.aload_n 0, 1) := by decide +kernel
theorem d_M_look_142 : decode b_M_look 142 = .ok (.iload 7, 2) := by decide +kernel
theorem d_M_look_144 : decode b_M_look 144 = .ok (.iload 5, 2) := by decide +kernel
theorem d_M_look_146 : decode b_M_look 146 = .ok (.iload 6, 2) := by decide +kernel
theorem d_M_look_148 : decode b_M_look 148 = .ok (.invokevirtual 220, 3) := by decide +kernel
theorem d_M_look_151 : decode b_M_look 151 = .ok (.ifCond .eq 6, 3) := by decide +kernel
theorem d_M_look_154 : decode b_M_look 154 = .ok (.iload 7, 2) := by decide +kernel
theorem d_M_look_156 : decode b_M_look 156 = .ok (.ireturn, 1) := by decide +kernel
theorem d_M_look_157 : decode b_M_look 157 = .ok (.iinc 7 1, 3) := by decide +kernel
theorem d_M_look_160 : decode b_M_look 160 = .ok (.goto (-110), 3) := by decide +kernel
theorem d_M_look_163 : decode b_M_look 163 = .ok (.bipush (-2), 2) := by decide +kernel
theorem d_M_look_165 : decode b_M_look 165 = .ok (.ireturn, 1) := by decide +kernel
theorem d_M_needClass_0 : decode b_M_needClass 0 = .ok (.aload_n 0, 1) := by decide +kernel
theorem d_M_needClass_1 : decode b_M_needClass 1 = .ok (.getfield 117, 3) := by decide +kernel
theorem d_M_needClass_4 : decode b_M_needClass 4 = .ok (.iload_n 1, 1) := by decide +kernel
theorem d_M_needClass_5 : decode b_M_needClass 5 = .ok (.baload, 1) := by decide +kernel
theorem d_M_needClass_6 : decode b_M_needClass 6 = .ok (.ifCond .ne 8, 3) := by decide +kernel
theorem d_M_needClass_9 : decode b_M_needClass 9 = .ok (.aload_n 0, 1) := by decide +kernel
theorem d_M_needClass_10 : decode b_M_needClass 10 = .ok (.iconst 1, 1) := by decide +kernel
theorem d_M_needClass_11 : decode b_M_needClass 11 = .ok (.putfield 224, 3) := by decide +kernel
theorem d_M_needClass_14 : decode b_M_needClass 14 = .ok (.aload_n 0, 1) := by decide +kernel
theorem d_M_needClass_15 : decode b_M_needClass 15 = .ok (.getfield 117, 3) := by decide +kernel
theorem d_M_needClass_18 : decode b_M_needClass 18 = .ok (.iload_n 1, 1) := by decide +kernel
theorem d_M_needClass_19 : decode b_M_needClass 19 = .ok (.iconst 1, 1) := by decide +kernel
theorem d_M_needClass_20 : decode b_M_needClass 20 = .ok (.bastore, 1) := by decide +kernel
theorem d_M_needClass_21 : decode b_M_needClass 21 = .ok (.return_, 1) := by decide +kernel
theorem d_M_make_0 : decode b_M_make 0 = .ok (.aload_n 0, 1) := by decide +kernel
theorem d_M_make_1 : decode b_M_make 1 = .ok (.getfield 120, 3) := by decide +kernel
theorem d_M_make_4 : decode b_M_make 4 = .ok (.iload_n 1, 1) := by decide +kernel
theorem d_M_make_5 : decode b_M_make 5 = .ok (.baload, 1) := by decide +kernel
theorem d_M_make_6 : decode b_M_make 6 = .ok (.ifCond .ne 8, 3) := by decide +kernel
theorem d_M_make_9 : decode b_M_make 9 = .ok (.aload_n 0, 1) := by decide +kernel
theorem d_M_make_10 : decode b_M_make 10 = .ok (.iconst 1, 1) := by decide +kernel
theorem d_M_make_11 : decode b_M_make 11 = .ok (.putfield 224, 3) := by decide +kernel
theorem d_M_make_14 : decode b_M_make 14 = .ok (.aload_n 0, 1) := by decide +kernel
theorem d_M_make_15 : decode b_M_make 15 = .ok (.getfield 120, 3) := by decide +kernel
theorem d_M_make_18 : decode b_M_make 18 = .ok (.iload_n 1, 1) := by decide +kernel
theorem d_M_make_19 : decode b_M_make 19 = .ok (.iconst 1, 1) := by decide +kernel
theorem d_M_make_20 : decode b_M_make 20 = .ok (.bastore, 1) := by decide +kernel
theorem d_M_make_21 : decode b_M_make 21 = .ok (.return_, 1) := by decide +kernel
theorem d_M_start_0 : decode b_M_start 0 = .ok (.aload_n 0, 1) := by decide +kernel
theorem d_M_start_1 : decode b_M_start 1 = .ok (.getfield 123, 3) := by decide +kernel
theorem d_M_start_4 : decode b_M_start 4 = .ok (.iload_n 1, 1) := by decide +kernel
theorem d_M_start_5 : decode b_M_start 5 = .ok (.baload, 1) := by decide +kernel
theorem d_M_start_6 : decode b_M_start 6 = .ok (.ifCond .ne 8, 3) := by decide +kernel
theorem d_M_start_9 : decode b_M_start 9 = .ok (.aload_n 0, 1) := by decide +kernel
theorem d_M_start_10 : decode b_M_start 10 = .ok (.iconst 1, 1) := by decide +kernel
theorem d_M_start_11 : decode b_M_start 11 = .ok (.putfield 224, 3) := by decide +kernel
theorem d_M_start_14 : decode b_M_start 14 = .ok (.aload_n 0, 1) := by decide +kernel
theorem d_M_start_15 : decode b_M_start 15 = .ok (.getfield 123, 3) := by decide +kernel
theorem d_M_start_18 : decode b_M_start 18 = .ok (.iload_n 1, 1) := by decide +kernel
theorem d_M_start_19 : decode b_M_start 19 = .ok (.iconst 1, 1) := by decide +kernel
theorem d_M_start_20 : decode b_M_start 20 = .ok (.bastore, 1) := by decide +kernel
theorem d_M_start_21 : decode b_M_start 21 = .ok (.return_, 1) := by decide +kernel
theorem d_M_needMember_0 : decode b_M_needMember 0 = .ok (.iload_n 1, 1) := by decide +kernel
theorem d_M_needMember_1 : decode b_M_needMember 1 = .ok (.ifCond .ge 4, 3) := by decide +kernel
theorem d_M_needMember_4 : decode b_M_needMember 4 = .ok (.return_, 1) := by decide +kernel
theorem d_M_needMember_5 : decode b_M_needMember 5 = .ok (.aload_n 0, 1) := by decide +kernel
theorem d_M_needMember_6 : decode b_M_needMember 6 = .ok (.getfield 126, 3) := by decide +kernel
theorem d_M_needMember_9 : decode b_M_needMember 9 = .ok (.iload_n 1, 1) := by decide +kernel
theorem d_M_needMember_10 : decode b_M_needMember 10 = .ok (.baload, 1) := by decide +kernel
theorem d_M_needMember_11 : decode b_M_needMember 11 = .ok (.ifCond .ne 8, 3) := by decide +kernel
theorem d_M_needMember_14 : decode b_M_needMember 14 = .ok (.aload_n 0, 1) := by decide +kernel
theorem d_M_needMember_15 : decode b_M_needMember 15 = .ok (.iconst 1, 1) := by decide +kernel
theorem d_M_needMember_16 : decode b_M_needMember 16 = .ok (.putfield 224, 3) := by decide +kernel
theorem d_M_needMember_19 : decode b_M_needMember 19 = .ok (.aload_n 0, 1) := by decide +kernel
theorem d_M_needMember_20 : decode b_M_needMember 20 = .ok (.getfield 126, 3) := by decide +kernel
theorem d_M_needMember_23 : decode b_M_needMember 23 = .ok (.iload_n 1, 1) := by decide +kernel
theorem d_M_needMember_24 : decode b_M_needMember 24 = .ok (.iconst 1, 1) := by decide +kernel
theorem d_M_needMember_25 : decode b_M_needMember 25 = .ok (.bastore, 1) := by decide +kernel
theorem d_M_needMember_26 : decode b_M_needMember 26 = .ok (.return_, 1) := by decide +kernel
theorem d_M_byRules_0 : decode b_M_byRules 0 = .ok (.iconst 0, 1) := by decide +kernel
theorem d_M_byRules_1 : decode b_M_byRules 1 = .ok (.istore_n 1, 1) := by decide +kernel
theorem d_M_byRules_2 : decode b_M_byRules 2 = .ok (.iload_n 1, 1) := by decide +kernel
theorem d_M_byRules_3 : decode b_M_byRules 3 = .ok (.aload_n 0, 1) := by decide +kernel
theorem d_M_byRules_4 : decode b_M_byRules 4 = .ok (.getfield 185, 3) := by decide +kernel
theorem d_M_byRules_7 : decode b_M_byRules 7 = .ok (.if_icmp .ge 155, 3) := by decide +kernel
theorem d_M_byRules_10 : decode b_M_byRules 10 = .ok (.iconst 1, 1) := by decide +kernel
theorem d_M_byRules_11 : decode b_M_byRules 11 = .ok (.istore_n 2, 1) := by decide +kernel
theorem d_M_byRules_12 : decode b_M_byRules 12 = .ok (.iload_n 2, 1) := by decide +kernel
theorem d_M_byRules_13 : decode b_M_byRules 13 = .ok (.bipush 10, 2) := by decide +kernel
theorem d_M_byRules_15 : decode b_M_byRules 15 = .ok (.if_icmp .ge 68, 3) := by decide +kernel
theorem d_M_byRules_18 : decode b_M_byRules 18 = .ok (.aload_n 0, 1) := by decide +kernel
theorem d_M_byRules_19 : decode b_M_byRules 19 = .ok (.getfield 129, 3) := by decide +kernel
theorem d_M_byRules_22 : decode b_M_byRules 22 = .ok (.bipush 10, 2) := by decide +kernel
theorem d_M_byRules_24 : decode b_M_byRules 24 = .ok (.iload_n 1, 1) := by decide +kernel
theorem d_M_byRules_25 : decode b_M_byRules 25 = .ok (.imul, 1) := by decide +kernel
theorem d_M_byRules_26 : decode b_M_byRules 26 = .ok (.iload_n 2, 1) := by decide +kernel
theorem d_M_byRules_27 : decode b_M_byRules 27 = .ok (.iadd, 1) := by decide +kernel
theorem d_M_byRules_28 : decode b_M_byRules 28 = .ok (.baload, 1) := by decide +kernel
theorem d_M_byRules_29 : decode b_M_byRules 29 = .ok (.ifCond .eq 48, 3) := by decide +kernel
theorem d_M_byRules_32 : decode b_M_byRules 32 = .ok (.aload_n 0, 1) := by decide +kernel
theorem d_M_byRules_33 : decode b_M_byRules 33 = .ok (.getfield 72, 3) := by decide +kernel
theorem d_M_byRules_36 : decode b_M_byRules 36 = .ok (.iload_n 1, 1) := by decide +kernel
theorem d_M_byRules_37 : decode b_M_byRules 37 = .ok (.iaload, 1) := by decide +kernel
theorem d_M_byRules_38 : decode b_M_byRules 38 = .ok (.ifCond .eq 6, 3) := by decide +kernel
theorem d_M_byRules_41 : decode b_M_byRules 41 = .ok (.goto 36, 3) := by decide +kernel
theorem d_M_byRules_44 : decode b_M_byRules 44 = .ok (.aload_n 0, 1) := by decide +kernel
theorem d_M_byRules_45 : decode b_M_byRules 45 = .ok (.iload_n 2, 1) := by decide +kernel
theorem d_M_byRules_46 : decode b_M_byRules 46 = .ok (.invokevirtual 228, 3) := by decide +kernel
theorem d_M_byRules_49 : decode b_M_byRules 49 = .ok (.aload_n 0, 1) := by decide +kernel
theorem d_M_byRules_50 : decode b_M_byRules 50 = .ok (.iload_n 2, 1) := by decide +kernel
theorem d_M_byRules_51 : decode b_M_byRules 51 = .ok (.invokevirtual 231, 3) := by decide +kernel
theorem d_M_byRules_54 : decode b_M_byRules 54 = .ok (.aload_n 0, 1) := by decide +kernel
theorem d_M_byRules_55 : decode b_M_byRules 55 = .ok (.getfield 16, 3) := by decide +kernel
theorem d_M_byRules_58 : decode b_M_byRules 58 = .ok (.iload_n 2, 1) := by decide +kernel
theorem d_M_byRules_59 : decode b_M_byRules 59 = .ok (.baload, 1) := by decide +kernel
theorem d_M_byRules_60 : decode b_M_byRules 60 = .ok (.ifCond .ne 17, 3) := by decide +kernel
theorem d_M_byRules_63 : decode b_M_byRules 63 = .ok (.aload_n 0, 1) := by decide +kernel
theorem d_M_byRules_64 : decode b_M_byRules 64 = .ok (.getfield 13, 3) := by decide +kernel
theorem d_M_byRules_67 : decode b_M_byRules 67 = .ok (.iload_n 2, 1) := by decide +kernel
theorem d_M_byRules_68 : decode b_M_byRules 68 = .ok (.baload, 1) := by decide +kernel
theorem d_M_byRules_69 : decode b_M_byRules 69 = .ok (.ifCond .ne 8, 3) := by decide +kernel
theorem d_M_byRules_72 : decode b_M_byRules 72 = .ok (.aload_n 0, 1) := by decide +kernel
theorem d_M_byRules_73 : decode b_M_byRules 73 = .ok (.iload_n 2, 1) := by decide +kernel
theorem d_M_byRules_74 : decode b_M_byRules 74 = .ok (.invokevirtual 234, 3) := by decide +kernel
theorem d_M_byRules_77 : decode b_M_byRules 77 = .ok (.iinc 2 1, 3) := by decide +kernel
theorem d_M_byRules_80 : decode b_M_byRules 80 = .ok (.goto (-68), 3) := by decide +kernel
theorem d_M_byRules_83 : decode b_M_byRules 83 = .ok (.iconst 1, 1) := by decide +kernel
theorem d_M_byRules_84 : decode b_M_byRules 84 = .ok (.istore_n 2, 1) := by decide +kernel
theorem d_M_byRules_85 : decode b_M_byRules 85 = .ok (.iload_n 2, 1) := by decide +kernel
theorem d_M_byRules_86 : decode b_M_byRules 86 = .ok (.aload_n 0, 1) := by decide +kernel
theorem d_M_byRules_87 : decode b_M_byRules 87 = .ok (.getfield 47, 3) := by decide +kernel
theorem d_M_byRules_90 : decode b_M_byRules 90 = .ok (.if_icmp .ge 66, 3) := by decide +kernel
theorem d_M_byRules_93 : decode b_M_byRules 93 = .ok (.aload_n 0, 1) := by decide +kernel
theorem d_M_byRules_94 : decode b_M_byRules 94 = .ok (.getfield 72, 3) := by decide +kernel
theorem d_M_byRules_97 : decode b_M_byRules 97 = .ok (.iload_n 1, 1) := by decide +kernel
theorem d_M_byRules_98 : decode b_M_byRules 98 = .ok (.iaload, 1) := by decide +kernel
theorem d_M_byRules_99 : decode b_M_byRules 99 = .ok (.ifCond .eq 27, 3) := by decide +kernel
theorem d_M_byRules_102 : decode b_M_byRules 102 = .ok (.aload_n 0, 1) := by decide +kernel
theorem d_M_byRules_103 : decode b_M_byRules 103 = .ok (.getfield 72, 3) := by decide +kernel
theorem d_M_byRules_106 : decode b_M_byRules 106 = .ok (.iload_n 1, 1) := by decide +kernel
theorem d_M_byRules_107 : decode b_M_byRules 107 = .ok (.iaload, 1) := by decide +kernel
theorem d_M_byRules_108 : decode b_M_byRules 108 = .ok (.iconst 2, 1) := by decide +kernel
theorem d_M_byRules_109 : decode b_M_byRules 109 = .ok (.if_icmp .ne 30, 3) := by decide +kernel
theorem d_M_byRules_112 : decode b_M_byRules 112 = .ok (.aload_n 0, 1) := by decide +kernel
theorem d_M_byRules_113 : decode b_M_byRules 113 = .ok (.getfield 117, 3) := by decide +kernel
theorem d_M_byRules_116 : decode b_M_byRules 116 = .ok (.aload_n 0, 1) := by decide +kernel
theorem d_M_byRules_117 : decode b_M_byRules 117 = .ok (.getfield 32, 3) := by decide +kernel
theorem d_M_byRules_120 : decode b_M_byRules 120 = .ok (.iload_n 2, 1) := by decide +kernel
theorem d_M_byRules_121 : decode b_M_byRules 121 = .ok (.iaload, 1) := by decide +kernel
theorem d_M_byRules_122 : decode b_M_byRules 122 = .ok (.baload, 1) := by decide +kernel
theorem d_M_byRules_123 : decode b_M_byRules 123 = .ok (.ifCond .eq 16, 3) := by decide +kernel
theorem d_M_byRules_126 : decode b_M_byRules 126 = .ok (.aload_n 0, 1) := by decide +kernel
theorem d_M_byRules_127 : decode b_M_byRules 127 = .ok (.iload_n 1, 1) := by decide +kernel
theorem d_M_byRules_128 : decode b_M_byRules 128 = .ok (.iload_n 2, 1) := by decide +kernel
theorem d_M_byRules_129 : decode b_M_byRules 129 = .ok (.invokevirtual 237, 3) := by decide +kernel
theorem d_M_byRules_132 : decode b_M_byRules 132 = .ok (.ifCond .eq 7, 3) := by decide +kernel
theorem d_M_byRules_135 : decode b_M_byRules 135 = .ok (.iconst 1, 1) := by decide +kernel
theorem d_M_byRules_136 : decode b_M_byRules 136 = .ok (.goto 4, 3) := by decide +kernel
theorem d_M_byRules_139 : decode b_M_byRules 139 = .ok (.iconst 0, 1) := by decide +kernel
theorem d_M_byRules_140 : decode b_M_byRules 140 = .ok (.istore_n 3, 1) := by decide +kernel
theorem d_M_byRules_141 : decode b_M_byRules 141 = .ok (.iload_n 3, 1) := by decide +kernel
theorem d_M_byRules_142 : decode b_M_byRules 142 = .ok (.ifCond .eq 8, 3) := by decide +kernel
theorem d_M_byRules_145 : decode b_M_byRules 145 = .ok (.aload_n 0, 1) := by decide +kernel
theorem d_M_byRules_146 : decode b_M_byRules 146 = .ok (.iload_n 2, 1) := by decide +kernel
theorem d_M_byRules_147 : decode b_M_byRules 147 = .ok (.invokevirtual 240, 3) := by decide +kernel
theorem d_M_byRules_150 : decode b_M_byRules 150 = .ok (.iinc 2 1, 3) := by decide +kernel
theorem d_M_byRules_153 : decode b_M_byRules 153 = .ok (.goto (-68), 3) := by decide +kernel
theorem d_M_byRules_156 : decode b_M_byRules 156 = .ok (.iinc 1 1, 3) := by decide +kernel
theorem d_M_byRules_159 : decode b_M_byRules 159 = .ok (.goto (-157), 3) := by decide +kernel
theorem d_M_byRules_162 : decode b_M_byRules 162 = .ok (.return_, 1) := by decide +kernel
theorem d_M_byClasses_0 : decode b_M_byClasses 0 = .ok (.iconst 0, 1) := by decide +kernel
theorem d_M_byClasses_1 : decode b_M_byClasses 1 = .ok (.istore_n 1, 1) := by decide +kernel
theorem d_M_byClasses_2 : decode b_M_byClasses 2 = .ok (.iload_n 1, 1) := by decide +kernel
theorem d_M_byClasses_3 : decode b_M_byClasses 3 = .ok (.bipush 10, 2) := by decide +kernel
theorem d_M_byClasses_5 : decode b_M_byClasses 5 = .ok (.if_icmp .ge 133, 3) := by decide +kernel
theorem d_M_byClasses_8 : decode b_M_byClasses 8 = .ok (.aload_n 0, 1) := by decide +kernel
theorem d_M_byClasses_9 : decode b_M_byClasses 9 = .ok (.iload_n 1, 1) := by decide +kernel
theorem d_M_byClasses_10 : decode b_M_byClasses 10 = .ok (.invokevirtual 214, 3) := by decide +kernel
theorem d_M_byClasses_13 : decode b_M_byClasses 13 = .ok (.istore_n 2, 1) := by decide +kernel
theorem d_M_byClasses_14 : decode b_M_byClasses 14 = .ok (.aload_n 0, 1) := by decide +kernel
theorem d_M_byClasses_15 : decode b_M_byClasses 15 = .ok (.getfield 117, 3) := by decide +kernel
theorem d_M_byClasses_18 : decode b_M_byClasses 18 = .ok (.iload_n 1, 1) := by decide +kernel
theorem d_M_byClasses_19 : decode b_M_byClasses 19 = .ok (.baload, 1) := by decide +kernel
theorem d_M_byClasses_20 : decode b_M_byClasses 20 = .ok (.ifCond .eq 39, 3) := by decide +kernel
theorem d_M_byClasses_23 : decode b_M_byClasses 23 = .ok (.iload_n 1, 1) := by decide +kernel
theorem d_M_byClasses_24 : decode b_M_byClasses 24 = .ok (.ifCond .le 35, 3) := by decide +kernel
theorem d_M_byClasses_27 : decode b_M_byClasses 27 = .ok (.aload_n 0, 1) := by decide +kernel
theorem d_M_byClasses_28 : decode b_M_byClasses 28 = .ok (.iload_n 2, 1) := by decide +kernel
theorem d_M_byClasses_29 : decode b_M_byClasses 29 = .ok (.invokevirtual 228, 3) := by decide +kernel
theorem d_M_byClasses_32 : decode b_M_byClasses 32 = .ok (.iconst 1, 1) := by decide +kernel
theorem d_M_byClasses_33 : decode b_M_byClasses 33 = .ok (.istore_n 3, 1) := by decide +kernel
theorem d_M_byClasses_34 : decode b_M_byClasses 34 = .ok (.iload_n 3, 1) := by decide +kernel
theorem d_M_byClasses_35 : decode b_M_byClasses 35 = .ok (.iload_n 1, 1) := by decide +kernel
theorem d_M_byClasses_36 : decode b_M_byClasses 36 = .ok (.if_icmp .ge 23, 3) := by decide +kernel
theorem d_M_byClasses_39 : decode b_M_byClasses 39 = .ok (.aload_n 0, 1) := by decide +kernel
theorem d_M_byClasses_40 : decode b_M_byClasses 40 = .ok (.iload_n 1, 1) := by decide +kernel
theorem d_M_byClasses_41 : decode b_M_byClasses 41 = .ok (.iload_n 3, 1) := by decide +kernel
theorem d_M_byClasses_42 : decode b_M_byClasses 42 = .ok (.invokevirtual 217, 3) := by decide +kernel
theorem d_M_byClasses_45 : decode b_M_byClasses 45 = .ok (.ifCond .eq 8, 3) := by decide +kernel
theorem d_M_byClasses_48 : decode b_M_byClasses 48 = .ok (.aload_n 0, 1) := by decide +kernel
theorem d_M_byClasses_49 : decode b_M_byClasses 49 = .ok (.iload_n 3, 1) := by decide +kernel
theorem d_M_byClasses_50 : decode b_M_byClasses 50 = .ok (.invokevirtual 228, 3) := by decide +kernel
theorem d_M_byClasses_53 : decode b_M_byClasses 53 = .ok (.iinc 3 1, 3) := by decide +kernel
theorem d_M_byClasses_56 : decode b_M_byClasses 56 = .ok (.goto (-22), 3) := by decide +kernel
theorem d_M_byClasses_59 : decode b_M_byClasses 59 = .ok (.aload_n 0, 1) := by decide +kernel
theorem d_M_byClasses_60 : decode b_M_byClasses 60 = .ok (.getfield 123, 3) := by decide +kernel
theorem d_M_byClasses_63 : decode b_M_byClasses 63 = .ok (.iload_n 1, 1) := by decide +kernel
theorem d_M_byClasses_64 : decode b_M_byClasses 64 = .ok (.baload, 1) := by decide +kernel
theorem d_M_byClasses_65 : decode b_M_byClasses 65 = .ok (.ifCond .eq 42, 3) := by decide +kernel
theorem d_M_byClasses_68 : decode b_M_byClasses 68 = .ok (.iload_n 1, 1) := by decide +kernel
theorem d_M_byClasses_69 : decode b_M_byClasses 69 = .ok (.ifCond .le 8, 3) := by decide +kernel
theorem d_M_byClasses_72 : decode b_M_byClasses 72 = .ok (.aload_n 0, 1) := by decide +kernel
theorem d_M_byClasses_73 : decode b_M_byClasses 73 = .ok (.iload_n 2, 1) := by decide +kernel
theorem d_M_byClasses_74 : decode b_M_byClasses 74 = .ok (.invokevirtual 231, 3) := by decide +kernel
theorem d_M_byClasses_77 : decode b_M_byClasses 77 = .ok (.aload_n 0, 1) := by decide +kernel
theorem d_M_byClasses_78 : decode b_M_byClasses 78 = .ok (.iload_n 1, 1) := by decide +kernel
theorem d_M_byClasses_79 : decode b_M_byClasses 79 = .ok (.iconst 1, 1) := by decide +kernel
theorem d_M_byClasses_80 : decode b_M_byClasses 80 = .ok (.bipush 7, 2) := by decide +kernel
theorem d_M_byClasses_82 : decode b_M_byClasses 82 = .ok (.iconst 0, 1) := by decide +kernel
theorem d_M_byClasses_83 : decode b_M_byClasses 83 = .ok (.invokevirtual 139, 3) := by decide +kernel
theorem d_M_byClasses_86 : decode b_M_byClasses 86 = .ok (.istore_n 3, 1) := by decide +kernel
theorem d_M_byClasses_87 : decode b_M_byClasses 87 = .ok (.iload_n 3, 1) := by decide +kernel
theorem d_M_byClasses_88 : decode b_M_byClasses 88 = .ok (.ifCond .lt 19, 3) := by decide +kernel
theorem d_M_byClasses_91 : decode b_M_byClasses 91 = .ok (.aload_n 0, 1) := by decide +kernel
theorem d_M_byClasses_92 : decode b_M_byClasses 92 = .ok (.getfield 41, 3) := by decide +kernel
theorem d_M_byClasses_95 : decode b_M_byClasses 95 = .ok (.iload_n 3, 1) := by decide +kernel
theorem d_M_byClasses_96 : decode b_M_byClasses 96 = .ok (.iaload, 1) := by decide +kernel
theorem d_M_byClasses_97 : decode b_M_byClasses 97 = .ok (.iconst 2, 1) := by decide +kernel
theorem d_M_byClasses_98 : decode b_M_byClasses 98 = .ok (.iand, 1) := by decide +kernel
theorem d_M_byClasses_99 : decode b_M_byClasses 99 = .ok (.ifCond .eq 8, 3) := by decide +kernel
theorem d_M_byClasses_102 : decode b_M_byClasses 102 = .ok (.aload_n 0, 1) := by decide +kernel
theorem d_M_byClasses_103 : decode b_M_byClasses 103 = .ok (.iload_n 3, 1) := by decide +kernel
theorem d_M_byClasses_104 : decode b_M_byClasses 104 = .ok (.invokevirtual 240, 3) := by decide +kernel
theorem d_M_byClasses_107 : decode b_M_byClasses 107 = .ok (.aload_n 0, 1) := by decide +kernel
theorem d_M_byClasses_108 : decode b_M_byClasses 108 = .ok (.getfield 120, 3) := by decide +kernel
theorem d_M_byClasses_111 : decode b_M_byClasses 111 = .ok (.iload_n 1, 1) := by decide +kernel
theorem d_M_byClasses_112 : decode b_M_byClasses 112 = .ok (.baload, 1) := by decide +kernel
theorem d_M_byClasses_113 : decode b_M_byClasses 113 = .ok (.ifCond .eq 19, 3) := by decide +kernel
theorem d_M_byClasses_116 : decode b_M_byClasses 116 = .ok (.aload_n 0, 1) := by decide +kernel
theorem d_M_byClasses_117 : decode b_M_byClasses 117 = .ok (.iload_n 1, 1) := by decide +kernel
theorem d_M_byClasses_118 : decode b_M_byClasses 118 = .ok (.iconst 1, 1) := by decide +kernel
theorem d_M_byClasses_119 : decode b_M_byClasses 119 = .ok (.iconst 0, 1) := by decide +kernel
theorem d_M_byClasses_120 : decode b_M_byClasses 120 = .ok (.iconst 0, 1) := by decide +kernel
theorem d_M_byClasses_121 : decode b_M_byClasses 121 = .ok (.iconst 1, 1) := by decide +kernel
theorem d_M_byClasses_122 : decode b_M_byClasses 122 = .ok (.iconst 0, 1) := by decide +kernel
theorem d_M_byClasses_123 : decode b_M_byClasses 123 = .ok (.invokevirtual 243, 3) := by decide +kernel
theorem d_M_byClasses_126 : decode b_M_byClasses 126 = .ok (.istore_n 3, 1) := by decide +kernel
theorem d_M_byClasses_127 : decode b_M_byClasses 127 = .ok (.aload_n 0, 1) := by decide +kernel
theorem d_M_byClasses_128 : decode b_M_byClasses 128 = .ok (.iload_n 3, 1) := by decide +kernel
theorem d_M_byClasses_129 : decode b_M_byClasses 129 = .ok (.invokevirtual 240, 3) := by decide +kernel
theorem d_M_byClasses_132 : decode b_M_byClasses 132 = .ok (.iinc 1 1, 3) := by decide +kernel
theorem d_M_byClasses_135 : decode b_M_byClasses 135 = .ok (.goto (-133), 3) := by decide +kernel
theorem d_M_byClasses_138 : decode b_M_byClasses 138 = .ok (.iconst 0, 1) := by decide +kernel
theorem d_M_byClasses_139 : decode b_M_byClasses 139 = .ok (.istore_n 1, 1) := by decide +kernel
theorem d_M_byClasses_140 : decode b_M_byClasses 140 = .ok (.iload_n 1, 1) := by decide +kernel
theorem d_M_byClasses_141 : decode b_M_byClasses 141 = .ok (.aload_n 0, 1) := by decide +kernel
theorem d_M_byClasses_142 : decode b_M_byClasses 142 = .ok (.getfield 47, 3) := by decide +kernel
theorem d_M_byClasses_145 : decode b_M_byClasses 145 = .ok (.if_icmp .ge 28, 3) := by decide +kernel
theorem d_M_byClasses_148 : decode b_M_byClasses 148 = .ok (.aload_n 0, 1) := by decide +kernel
theorem d_M_byClasses_149 : decode b_M_byClasses 149 = .ok (.getfield 126, 3) := by decide +kernel
theorem d_M_byClasses_152 : decode b_M_byClasses 152 = .ok (.iload_n 1, 1) := by decide +kernel
theorem d_M_byClasses_153 : decode b_M_byClasses 153 = .ok (.baload, 1) := by decide +kernel
theorem d_M_byClasses_154 : decode b_M_byClasses 154 = .ok (.ifCond .eq 13, 3) := by decide +kernel
theorem d_M_byClasses_157 : decode b_M_byClasses 157 = .ok (.aload_n 0, 1) := by decide +kernel
theorem d_M_byClasses_158 : decode b_M_byClasses 158 = .ok (.aload_n 0, 1) := by decide +kernel
theorem d_M_byClasses_159 : decode b_M_byClasses 159 = .ok (.getfield 32, 3) := by decide +kernel
theorem d_M_byClasses_162 : decode b_M_byClasses 162 = .ok (.iload_n 1, 1) := by decide +kernel
theorem d_M_byClasses_163 : decode b_M_byClasses 163 = .ok (.iaload, 1) := by decide +kernel
theorem d_M_byClasses_164 : decode b_M_byClasses 164 = .ok (.invokevirtual 228, 3) := by decide +kernel
theorem d_M_byClasses_167 : decode b_M_byClasses 167 = .ok (.iinc 1 1, 3) := by decide +kernel
theorem d_M_byClasses_170 : decode b_M_byClasses 170 = .ok (.goto (-30), 3) := by decide +kernel
theorem d_M_byClasses_173 : decode b_M_byClasses 173 = .ok (.return_, 1) := by decide +kernel
theorem d_M_byReference_0 : decode b_M_byReference 0 = .ok (.aload_n 0, 1) := by decide +kernel
theorem d_M_byReference_1 : decode b_M_byReference 1 = .ok (.getfield 57, 3) := by decide +kernel
theorem d_M_byReference_4 : decode b_M_byReference 4 = .ok (.iload_n 1, 1) := by decide +kernel
theorem d_M_byReference_5 : decode b_M_byReference 5 = .ok (.iaload, 1) := by decide +kernel
theorem d_M_byReference_6 : decode b_M_byReference 6 = .ok (.istore_n 2, 1) := by decide +kernel
theorem d_M_byReference_7 : decode b_M_byReference 7 = .ok (.aload_n 0, 1) := by decide +kernel
theorem d_M_byReference_8 : decode b_M_byReference 8 = .ok (.getfield 54, 3) := by decide +kernel
theorem d_M_byReference_11 : decode b_M_byReference 11 = .ok (.iload_n 1, 1) := by decide +kernel
theorem d_M_byReference_12 : decode b_M_byReference 12 = .ok (.iaload, 1) := by decide +kernel
theorem d_M_byReference_13 : decode b_M_byReference 13 = .ok (.istore_n 3, 1) := by decide +kernel
theorem d_M_byReference_14 : decode b_M_byReference 14 = .ok (.aload_n 0, 1) := by decide +kernel
theorem d_M_byReference_15 : decode b_M_byReference 15 = .ok (.iload_n 2, 1) := by decide +kernel
theorem d_M_byReference_16 : decode b_M_byReference 16 = .ok (.invokevirtual 228, 3) := by decide +kernel
theorem d_M_byReference_19 : decode b_M_byReference 19 = .ok (.iload_n 3, 1) := by decide +kernel
theorem d_M_byReference_20 : decode b_M_byReference 20 = .ok (.ifCond .ne 31, 3) := by decide +kernel
theorem d_M_byReference_23 : decode b_M_byReference 23 = .ok (.aload_n 0, 1) := by decide +kernel
theorem d_M_byReference_24 : decode b_M_byReference 24 = .ok (.getfield 16, 3) := by decide +kernel
theorem d_M_byReference_27 : decode b_M_byReference 27 = .ok (.iload_n 2, 1) := by decide +kernel
theorem d_M_byReference_28 : decode b_M_byReference 28 = .ok (.baload, 1) := by decide +kernel
theorem d_M_byReference_29 : decode b_M_byReference 29 = .ok (.ifCond .ne 22, 3) := by decide +kernel
theorem d_M_byReference_32 : decode b_M_byReference 32 = .ok (.aload_n 0, 1) := by decide +kernel
theorem d_M_byReference_33 : decode b_M_byReference 33 = .ok (.getfield 13, 3) := by decide +kernel
theorem d_M_byReference_36 : decode b_M_byReference 36 = .ok (.iload_n 2, 1) := by decide +kernel
theorem d_M_byReference_37 : decode b_M_byReference 37 = .ok (.baload, 1) := by decide +kernel
theorem d_M_byReference_38 : decode b_M_byReference 38 = .ok (.ifCond .ne 13, 3) := by decide +kernel
theorem d_M_byReference_41 : decode b_M_byReference 41 = .ok (.aload_n 0, 1) := by decide +kernel
theorem d_M_byReference_42 : decode b_M_byReference 42 = .ok (.iload_n 2, 1) := by decide +kernel
theorem d_M_byReference_43 : decode b_M_byReference 43 = .ok (.invokevirtual 234, 3) := by decide +kernel
theorem d_M_byReference_46 : decode b_M_byReference 46 = .ok (.aload_n 0, 1) := by decide +kernel
theorem d_M_byReference_47 : decode b_M_byReference 47 = .ok (.iload_n 2, 1) := by decide +kernel
theorem d_M_byReference_48 : decode b_M_byReference 48 = .ok (.invokevirtual 231, 3) := by decide +kernel
theorem d_M_byReference_51 : decode b_M_byReference 51 = .ok (.iload_n 3, 1) := by decide +kernel
theorem d_M_byReference_52 : decode b_M_byReference 52 = .ok (.iconst 2, 1) := by decide +kernel
theorem d_M_byReference_53 : decode b_M_byReference 53 = .ok (.if_icmp .ge 4, 3) := by decide +kernel
theorem d_M_byReference_56 : decode b_M_byReference 56 = .ok (.return_, 1) := by decide +kernel
theorem d_M_byReference_57 : decode b_M_byReference 57 = .ok (.aload_n 0, 1) := by decide +kernel
theorem d_M_byReference_58 : decode b_M_byReference 58 = .ok (.iload_n 2, 1) := by decide +kernel
theorem d_M_byReference_59 : decode b_M_byReference 59 = .ok (.iload_n 3, 1) := by decide +kernel
theorem d_M_byReference_60 : decode b_M_byReference 60 = .ok (.iconst 2, 1) := by decide +kernel
theorem d_M_byReference_61 : decode b_M_byReference 61 = .ok (.if_icmp .ne 7, 3) := by decide +kernel
theorem d_M_byReference_64 : decode b_M_byReference 64 = .ok (.iconst 0, 1) := by decide +kernel
theorem d_M_byReference_65 : decode b_M_byReference 65 = .ok (.goto 4, 3) := by decide +kernel
theorem d_M_byReference_68 : decode b_M_byReference 68 = .ok (.iconst 1, 1) := by decide +kernel
theorem d_M_byReference_69 : decode b_M_byReference 69 = .ok (.aload_n 0, 1) := by decide +kernel
theorem d_M_byReference_70 : decode b_M_byReference 70 = .ok (.getfield 60, 3) := by decide +kernel
theorem d_M_byReference_73 : decode b_M_byReference 73 = .ok (.iload_n 1, 1) := by decide +kernel
theorem d_M_byReference_74 : decode b_M_byReference 74 = .ok (.iaload, 1) := by decide +kernel
theorem d_M_byReference_75 : decode b_M_byReference 75 = .ok (.aload_n 0, 1) := by decide +kernel
theorem d_M_byReference_76 : decode b_M_byReference 76 = .ok (.getfield 63, 3) := by decide +kernel
theorem d_M_byReference_79 : decode b_M_byReference 79 = .ok (.iload_n 1, 1) := by decide +kernel
theorem d_M_byReference_80 : decode b_M_byReference 80 = .ok (.iaload, 1) := by decide +kernel
theorem d_M_byReference_81 : decode b_M_byReference 81 = .ok (.iconst 0, 1) := by decide +kernel
theorem d_M_byReference_82 : decode b_M_byReference 82 = .ok (.iconst 0, 1) := by decide +kernel
theorem d_M_byReference_83 : decode b_M_byReference 83 = .ok (.invokevirtual 243, 3) := by decide +kernel
theorem d_M_byReference_86 : decode b_M_byReference 86 = .ok (.istore 4, 2) := by decide +kernel
theorem d_M_byReference_88 : decode b_M_byReference 88 = .ok (.aload_n 0, 1) := by decide +kernel
theorem d_M_byReference_89 : decode b_M_byReference 89 = .ok (.iload 4, 2) := by decide +kernel
theorem d_M_byReference_91 : decode b_M_byReference 91 = .ok (.invokevirtual 240, 3) := by decide +kernel
theorem d_M_byReference_94 : decode b_M_byReference 94 = .ok (.iload 4, 2) := by decide +kernel
theorem d_M_byReference_96 : decode b_M_byReference 96 = .ok (.ifCond .lt 26, 3) := by decide +kernel
theorem d_M_byReference_99 : decode b_M_byReference 99 = .ok (.aload_n 0, 1) := by decide +kernel
theorem d_M_byReference_100 : decode b_M_byReference 100 = .ok (.getfield 41, 3) := by decide +kernel
theorem d_M_byReference_103 : decode b_M_byReference 103 = .ok (.iload 4, 2) := by decide +kernel
theorem d_M_byReference_105 : decode b_M_byReference 105 = .ok (.iaload, 1) := by decide +kernel
theorem d_M_byReference_106 : decode b_M_byReference 106 = .ok (.iconst 2, 1) := by decide +kernel
theorem d_M_byReference_107 : decode b_M_byReference 107 = .ok (.iand, 1) := by decide +kernel
theorem d_M_byReference_108 : decode b_M_byReference 108 = .ok (.ifCond .eq 14, 3) := by decide +kernel
theorem d_M_byReference_111 : decode b_M_byReference 111 = .ok (.aload_n 0, 1) := by decide +kernel
theorem d_M_byReference_112 : decode b_M_byReference 112 = .ok (.aload_n 0, 1) := by decide +kernel
theorem d_M_byReference_113 : decode b_M_byReference 113 = .ok (.getfield 32, 3) := by decide +kernel
theorem d_M_byReference_116 : decode b_M_byReference 116 = .ok (.iload 4, 2) := by decide +kernel
theorem d_M_byReference_118 : decode b_M_byReference 118 = .ok (.iaload, 1) := by decide +kernel
theorem d_M_byReference_119 : decode b_M_byReference 119 = .ok (.invokevirtual 231, 3) := by decide +kernel
theorem d_M_byReference_122 : decode b_M_byReference 122 = .ok (.iconst 0, 1) := by decide +kernel
theorem d_M_byReference_123 : decode b_M_byReference 123 = .ok (.istore 5, 2) := by decide +kernel
theorem d_M_byReference_125 : decode b_M_byReference 125 = .ok (.iload 5, 2) := by decide +kernel
theorem d_M_byReference_127 : decode b_M_byReference 127 = .ok (.bipush 10, 2) := by decide +kernel
theorem d_M_byReference_129 : decode b_M_byReference 129 = .ok (.if_icmp .ge 76, 3) := by decide +kernel
theorem d_M_byReference_132 : decode b_M_byReference 132 = .ok (.iload_n 3, 1) := by decide +kernel
theorem d_M_byReference_133 : decode b_M_byReference 133 = .ok (.iconst 5, 1) := by decide +kernel
theorem d_M_byReference_134 : decode b_M_byReference 134 = .ok (.if_icmp .ne 71, 3) := by decide +kernel
theorem d_M_byReference_137 : decode b_M_byReference 137 = .ok (.aload_n 0, 1) := by decide +kernel
theorem d_M_byReference_138 : decode b_M_byReference 138 = .ok (.getfield 120, 3) := by decide +kernel
theorem d_M_byReference_141 : decode b_M_byReference 141 = .ok (.iload 5, 2) := by decide +kernel
theorem d_M_byReference_143 : decode b_M_byReference 143 = .ok (.baload, 1) := by decide +kernel
theorem d_M_byReference_144 : decode b_M_byReference 144 = .ok (.ifCond .eq 55, 3) := by decide +kernel
theorem d_M_byReference_147 : decode b_M_byReference 147 = .ok (.iload 5, 2) := by decide +kernel
theorem d_M_byReference_149 : decode b_M_byReference 149 = .ok (.iload_n 2, 1) := by decide +kernel
theorem d_M_byReference_150 : decode b_M_byReference 150 = .ok (.if_icmp .eq 20, 3) := by decide +kernel
theorem d_M_byReference_153 : decode b_M_byReference 153 = .ok (.aload_n 0, 1) := by decide +kernel
theorem d_M_byReference_154 : decode b_M_byReference 154 = .ok (.getfield 29, 3) := by decide +kernel
theorem d_M_byReference_157 : decode b_M_byReference 157 = .ok (.iload 5, 2) := by decide +kernel
theorem d_M_byReference_159 : decode b_M_byReference 159 = .ok (.iaload, 1) := by decide +kernel
theorem d_M_byReference_160 : decode b_M_byReference 160 = .ok (.iload_n 2, 1) := by decide +kernel
theorem d_M_byReference_161 : decode b_M_byReference 161 = .ok (.ishr, 1) := by decide +kernel
theorem d_M_byReference_162 : decode b_M_byReference 162 = .ok (.iconst 1, 1) := by decide +kernel
theorem d_M_byReference_163 : decode b_M_byReference 163 = .ok (.iand, 1) := by decide +kernel
theorem d_M_byReference_164 : decode b_M_byReference 164 = .ok (.ifCond .ne 6, 3) := by decide +kernel
theorem d_M_byReference_167 : decode b_M_byReference 167 = .ok (.goto 32, 3) := by decide +kernel
theorem d_M_byReference_170 : decode b_M_byReference 170 = .ok (.aload_n 0, 1) := by decide +kernel
theorem d_M_byReference_171 : decode b_M_byReference 171 = .ok (.iload 5, 2) := by decide +kernel
theorem d_M_byReference_173 : decode b_M_byReference 173 = .ok (.iconst 1, 1) := by decide +kernel
theorem d_M_byReference_174 : decode b_M_byReference 174 = .ok (.aload_n 0, 1) := by decide +kernel
theorem d_M_byReference_175 : decode b_M_byReference 175 = .ok (.getfield 60, 3) := by decide +kernel
theorem d_M_byReference_178 : decode b_M_byReference 178 = .ok (.iload_n 1, 1) := by decide +kernel
theorem d_M_byReference_179 : decode b_M_byReference 179 = .ok (.iaload, 1) := by decide +kernel
theorem d_M_byReference_180 : decode b_M_byReference 180 = .ok (.aload_n 0, 1) := by decide +kernel
theorem d_M_byReference_181 : decode b_M_byReference 181 = .ok (.getfield 63, 3) := by decide +kernel
theorem d_M_byReference_184 : decode b_M_byReference 184 = .ok (.iload_n 1, 1) := by decide +kernel
theorem d_M_byReference_185 : decode b_M_byReference 185 = .ok (.iaload, 1) := by decide +kernel
theorem d_M_byReference_186 : decode b_M_byReference 186 = .ok (.iconst 1, 1) := by decide +kernel
theorem d_M_byReference_187 : decode b_M_byReference 187 = .ok (.iconst 0, 1) := by decide +kernel
theorem d_M_byReference_188 : decode b_M_byReference 188 = .ok (.invokevirtual 243, 3) := by decide +kernel
theorem d_M_byReference_191 : decode b_M_byReference 191 = .ok (.istore 6, 2) := by decide +kernel
theorem d_M_byReference_193 : decode b_M_byReference 193 = .ok (.aload_n 0, 1) := by decide +kernel
theorem d_M_byReference_194 : decode b_M_byReference 194 = .ok (.iload 6, 2) := by decide +kernel
theorem d_M_byReference_196 : decode b_M_byReference 196 = .ok (.invokevirtual 240, 3) := by decide +kernel
theorem d_M_byReference_199 : decode b_M_byReference 199 = .ok (.iinc 5 1, 3) := by decide +kernel
theorem d_M_byReference_202 : decode b_M_byReference 202 = .ok (.goto (-77), 3) := by decide +kernel
theorem d_M_byReference_205 : decode b_M_byReference 205 = .ok (.return_, 1) := by decide +kernel
theorem d_M_isActive_0 : decode b_M_isActive 0 = .ok (.aload_n 0, 1) := by decide +kernel
theorem d_M_isActive_1 : decode b_M_isActive 1 = .ok (.getfield 44, 3) := by decide +kernel
theorem d_M_isActive_4 : decode b_M_isActive 4 = .ok (.aload_n 0, 1) := by decide +kernel
theorem d_M_isActive_5 : decode b_M_isActive 5 = .ok (.getfield 51, 3) := by decide +kernel
theorem d_M_isActive_8 : decode b_M_isActive 8 = .ok (.iload_n 1, 1) := by decide +kernel
theorem d_M_isActive_9 : decode b_M_isActive 9 = .ok (.iaload, 1) := by decide +kernel
theorem d_M_isActive_10 : decode b_M_isActive 10 = .ok (.baload, 1) := by decide +kernel
theorem d_M_isActive_11 : decode b_M_isActive 11 = .ok (.ifCond .ne 21, 3) := by decide +kernel
theorem d_M_isActive_14 : decode b_M_isActive 14 = .ok (.aload_n 0, 1) := by decide +kernel
theorem d_M_isActive_15 : decode b_M_isActive 15 = .ok (.getfield 126, 3) := by decide +kernel
theorem d_M_isActive_18 : decode b_M_isActive 18 = .ok (.aload_n 0, 1) := by decide +kernel
theorem d_M_isActive_19 : decode b_M_isActive 19 = .ok (.getfield 51, 3) := by decide +kernel
theorem d_M_isActive_22 : decode b_M_isActive 22 = .ok (.iload_n 1, 1) := by decide +kernel
theorem d_M_isActive_23 : decode b_M_isActive 23 = .ok (.iaload, 1) := by decide +kernel
theorem d_M_isActive_24 : decode b_M_isActive 24 = .ok (.baload, 1) := by decide +kernel
theorem d_M_isActive_25 : decode b_M_isActive 25 = .ok (.ifCond .eq 7, 3) := by decide +kernel
theorem d_M_isActive_28 : decode b_M_isActive 28 = .ok (.iconst 1, 1) := by decide +kernel
theorem d_M_isActive_29 : decode b_M_isActive 29 = .ok (.goto 4, 3) := by decide +kernel
theorem d_M_isActive_32 : decode b_M_isActive 32 = .ok (.iconst 0, 1) := by decide +kernel
theorem d_M_isActive_33 : decode b_M_isActive 33 = .ok (.ireturn, 1) := by decide +kernel
theorem d_M_find_0 : decode b_M_find 0 = .ok (.aload_n 0, 1) := by decide +kernel
theorem d_M_find_1 : decode b_M_find 1 = .ok (.invokevirtual 247, 3) := by decide +kernel
theorem d_M_find_4 : decode b_M_find 4 = .ok (.iconst 0, 1) := by decide +kernel
theorem d_M_find_5 : decode b_M_find 5 = .ok (.istore_n 1, 1) := by decide +kernel
theorem d_M_find_6 : decode b_M_find 6 = .ok (.iload_n 1, 1) := by decide +kernel
theorem d_M_find_7 : decode b_M_find 7 = .ok (.aload_n 0, 1) := by decide +kernel
theorem d_M_find_8 : decode b_M_find 8 = .ok (.getfield 185, 3) := by decide +kernel
theorem d_M_find_11 : decode b_M_find 11 = .ok (.if_icmp .ge 42, 3) := by decide +kernel
theorem d_M_find_14 : decode b_M_find 14 = .ok (.iconst 0, 1) := by decide +kernel
theorem d_M_find_15 : decode b_M_find 15 = .ok (.istore_n 2, 1) := by decide +kernel
theorem d_M_find_16 : decode b_M_find 16 = .ok (.iload_n 2, 1) := by decide +kernel
theorem d_M_find_17 : decode b_M_find 17 = .ok (.bipush 10, 2) := by decide +kernel
theorem d_M_find_19 : decode b_M_find 19 = .ok (.if_icmp .ge 28, 3) := by decide +kernel
theorem d_M_find_22 : decode b_M_find 22 = .ok (.aload_n 0, 1) := by decide +kernel
theorem d_M_find_23 : decode b_M_find 23 = .ok (.iload_n 1, 1) := by decide +kernel
theorem d_M_find_24 : decode b_M_find 24 = .ok (.iload_n 2, 1) := by decide +kernel
theorem d_M_find_25 : decode b_M_find 25 = .ok (.invokevirtual 250, 3) := by decide +kernel
theorem d_M_find_28 : decode b_M_find 28 = .ok (.istore_n 3, 1) := by decide +kernel
theorem d_M_find_29 : decode b_M_find 29 = .ok (.aload_n 0, 1) := by decide +kernel
theorem d_M_find_30 : decode b_M_find 30 = .ok (.getfield 129, 3) := by decide +kernel
theorem d_M_find_33 : decode b_M_find 33 = .ok (.bipush 10, 2) := by decide +kernel
theorem d_M_find_35 : decode b_M_find 35 = .ok (.iload_n 1, 1) := by decide +kernel
theorem d_M_find_36 : decode b_M_find 36 = .ok (.imul, 1) := by decide +kernel
theorem d_M_find_37 : decode b_M_find 37 = .ok (.iload_n 2, 1) := by decide +kernel
theorem d_M_find_38 : decode b_M_find 38 = .ok (.iadd, 1) := by decide +kernel
theorem d_M_find_39 : decode b_M_find 39 = .ok (.iload_n 3, 1) := by decide +kernel
theorem d_M_find_40 : decode b_M_find 40 = .ok (.bastore, 1) := by decide +kernel
theorem d_M_find_41 : decode b_M_find 41 = .ok (.iinc 2 1, 3) := by decide +kernel
theorem d_M_find_44 : decode b_M_find 44 = .ok (.goto (-28), 3) := by decide +kernel
theorem d_M_find_47 : decode b_M_find 47 = .ok (.iinc 1 1, 3) := by decide +kernel
theorem d_M_find_50 : decode b_M_find 50 = .ok (.goto (-44), 3) := by decide +kernel
theorem d_M_find_53 : decode b_M_find 53 = .ok (.iconst 0, 1) := by decide +kernel
theorem d_M_find_54 : decode b_M_find 54 = .ok (.istore_n 1, 1) := by decide +kernel
theorem d_M_find_55 : decode b_M_find 55 = .ok (.iload_n 1, 1) := by decide +kernel
theorem d_M_find_56 : decode b_M_find 56 = .ok (.bipush 10, 2) := by decide +kernel
theorem d_M_find_58 : decode b_M_find 58 = .ok (.if_icmp .ge 38, 3) := by decide +kernel
theorem d_M_find_61 : decode b_M_find 61 = .ok (.aload_n 0, 1) := by decide +kernel
theorem d_M_find_62 : decode b_M_find 62 = .ok (.getfield 117, 3) := by decide +kernel
theorem d_M_find_65 : decode b_M_find 65 = .ok (.iload_n 1, 1) := by decide +kernel
theorem d_M_find_66 : decode b_M_find 66 = .ok (.iload_n 1, 1) := by decide +kernel
theorem d_M_find_67 : decode b_M_find 67 = .ok (.ifCond .ne 7, 3) := by decide +kernel
theorem d_M_find_70 : decode b_M_find 70 = .ok (.iconst 1, 1) := by decide +kernel
theorem d_M_find_71 : decode b_M_find 71 = .ok (.goto 4, 3) := by decide +kernel
theorem d_M_find_74 : decode b_M_find 74 = .ok (.iconst 0, 1) := by decide +kernel
theorem d_M_find_75 : decode b_M_find 75 = .ok (.bastore, 1) := by decide +kernel
theorem d_M_find_76 : decode b_M_find 76 = .ok (.aload_n 0, 1) := by decide +kernel
theorem d_M_find_77 : decode b_M_find 77 = .ok (.getfield 120, 3) := by decide +kernel
theorem d_M_find_80 : decode b_M_find 80 = .ok (.iload_n 1, 1) := by decide +kernel
theorem d_M_find_81 : decode b_M_find 81 = .ok (.iconst 0, 1) := by decide +kernel
theorem d_M_find_82 : decode b_M_find 82 = .ok (.bastore, 1) := by decide +kernel
theorem d_M_find_83 : decode b_M_find 83 = .ok (.aload_n 0, 1) := by decide +kernel
theorem d_M_find_84 : decode b_M_find 84 = .ok (.getfield 123, 3) := by decide +kernel
theorem d_M_find_87 : decode b_M_find 87 = .ok (.iload_n 1, 1) := by decide +kernel
theorem d_M_find_88 : decode b_M_find 88 = .ok (.iconst 0, 1) := by decide +kernel
theorem d_M_find_89 : decode b_M_find 89 = .ok (.bastore, 1) := by decide +kernel
theorem d_M_find_90 : decode b_M_find 90 = .ok (.iinc 1 1, 3) := by decide +kernel
theorem d_M_find_93 : decode b_M_find 93 = .ok (.goto (-38), 3) := by decide +kernel
theorem d_M_find_96 : decode b_M_find 96 = .ok (.iconst 0, 1) := by decide +kernel
theorem d_M_find_97 : decode b_M_find 97 = .ok (.istore_n 1, 1) := by decide +kernel
theorem d_M_find_98 : decode b_M_find 98 = .ok (.iload_n 1, 1) := by decide +kernel
theorem d_M_find_99 : decode b_M_find 99 = .ok (.bipush 40, 2) := by decide +kernel
theorem d_M_find_101 : decode b_M_find 101 = .ok (.if_icmp .ge 24, 3) := by decide +kernel
theorem d_M_find_104 : decode b_M_find 104 = .ok (.aload_n 0, 1) := by decide +kernel
theorem d_M_find_105 : decode b_M_find 105 = .ok (.getfield 126, 3) := by decide +kernel
theorem d_M_find_108 : decode b_M_find 108 = .ok (.iload_n 1, 1) := by decide +kernel
theorem d_M_find_109 : decode b_M_find 109 = .ok (.iload_n 1, 1) := by decide +kernel
theorem d_M_find_110 : decode b_M_find 110 = .ok (.ifCond .ne 7, 3) := by decide +kernel
theorem d_M_find_113 : decode b_M_find 113 = .ok (.iconst 1, 1) := by decide +kernel
theorem d_M_find_114 : decode b_M_find 114 = .ok (.goto 4, 3) := by decide +kernel
theorem d_M_find_117 : decode b_M_find 117 = .ok (.iconst 0, 1) := by decide +kernel
theorem d_M_find_118 : decode b_M_find 118 = .ok (.bastore, 1) := by decide +kernel
theorem d_M_find_119 : decode b_M_find 119 = .ok (.iinc 1 1, 3) := by decide +kernel
theorem d_M_find_122 : decode b_M_find 122 = .ok (.goto (-24), 3) := by decide +kernel
theorem d_M_find_125 : decode b_M_find 125 = .ok (.aload_n 0, 1) := by decide +kernel
theorem d_M_find_126 : decode b_M_find 126 = .ok (.iconst 1, 1) := by decide +kernel
theorem d_M_find_127 : decode b_M_find 127 = .ok (.putfield 224, 3) := by decide +kernel
theorem d_M_find_130 : decode b_M_find 130 = .ok (.aload_n 0, 1) := by decide +kernel
theorem d_M_find_131 : decode b_M_find 131 = .ok (.getfield 224, 3) := by decide +kernel
theorem d_M_find_134 : decode b_M_find 134 = .ok (.ifCond .eq 62, 3) := by decide +kernel
theorem d_M_find_137 : decode b_M_find 137 = .ok (.aload_n 0, 1) := by decide +kernel
theorem d_M_find_138 : decode b_M_find 138 = .ok (.iconst 0, 1) := by decide +kernel
theorem d_M_find_139 : decode b_M_find 139 = .ok (.putfield 224, 3) := by decide +kernel
theorem d_M_find_142 : decode b_M_find 142 = .ok (.aload_n 0, 1) := by decide +kernel
theorem d_M_find_143 : decode b_M_find 143 = .ok (.invokevirtual 253, 3) := by decide +kernel
theorem d_M_find_146 : decode b_M_find 146 = .ok (.aload_n 0, 1) := by decide +kernel
theorem d_M_find_147 : decode b_M_find 147 = .ok (.invokevirtual 256, 3) := by decide +kernel
theorem d_M_find_150 : decode b_M_find 150 = .ok (.iconst 0, 1) := by decide +kernel
theorem d_M_find_151 : decode b_M_find 151 = .ok (.istore_n 1, 1) := by decide +kernel
theorem d_M_find_152 : decode b_M_find 152 = .ok (.iload_n 1, 1) := by decide +kernel
theorem d_M_find_153 : decode b_M_find 153 = .ok (.aload_n 0, 1) := by decide +kernel
theorem d_M_find_154 : decode b_M_find 154 = .ok (.getfield 143, 3) := by decide +kernel
theorem d_M_find_157 : decode b_M_find 157 = .ok (.if_icmp .ge 36, 3) := by decide +kernel
theorem d_M_find_160 : decode b_M_find 160 = .ok (.aload_n 0, 1) := by decide +kernel
theorem d_M_find_161 : decode b_M_find 161 = .ok (.iload_n 1, 1) := by decide +kernel
theorem d_M_find_162 : decode b_M_find 162 = .ok (.invokevirtual 259, 3) := by decide +kernel
theorem d_M_find_165 : decode b_M_find 165 = .ok (.ifCond .eq 22, 3) := by decide +kernel
theorem d_M_find_168 : decode b_M_find 168 = .ok (.aload_n 0, 1) := by decide +kernel
theorem d_M_find_169 : decode b_M_find 169 = .ok (.getfield 7, 3) := by decide +kernel
theorem d_M_find_172 : decode b_M_find 172 = .ok (.aload_n 0, 1) := by decide +kernel
theorem d_M_find_173 : decode b_M_find 173 = .ok (.getfield 57, 3) := by decide +kernel
theorem d_M_find_176 : decode b_M_find 176 = .ok (.iload_n 1, 1) := by decide +kernel
theorem d_M_find_177 : decode b_M_find 177 = .ok (.iaload, 1) := by decide +kernel
theorem d_M_find_178 : decode b_M_find 178 = .ok (.baload, 1) := by decide +kernel
theorem d_M_find_179 : decode b_M_find 179 = .ok (.ifCond .eq 8, 3) := by decide +kernel
theorem d_M_find_182 : decode b_M_find 182 = .ok (.aload_n 0, 1) := by decide +kernel
theorem d_M_find_183 : decode b_M_find 183 = .ok (.iload_n 1, 1) := by decide +kernel
theorem d_M_find_184 : decode b_M_find 184 = .ok (.invokevirtual 262, 3) := by decide +kernel
theorem d_M_find_187 : decode b_M_find 187 = .ok (.iinc 1 1, 3) := by decide +kernel
theorem d_M_find_190 : decode b_M_find 190 = .ok (.goto (-38), 3) := by decide +kernel
theorem d_M_find_193 : decode b_M_find 193 = .ok (.goto (-63), 3) := by decide +kernel
theorem d_M_find_196 : decode b_M_find 196 = .ok (.return_, 1) := by decide +kernel
theorem d_M_keepsName_0 : decode b_M_keepsName 0 = .ok (.iload_n 1, 1) := by decide +kernel
theorem d_M_keepsName_1 : decode b_M_keepsName 1 = .ok (.ifCond .ne 5, 3) := by decide +kernel
theorem d_M_keepsName_4 : decode b_M_keepsName 4 = .ok (.iconst 1, 1) := by decide +kernel
theorem d_M_keepsName_5 : decode b_M_keepsName 5 = .ok (.ireturn, 1) := by decide +kernel
theorem d_M_keepsName_6 : decode b_M_keepsName 6 = .ok (.iconst 0, 1) := by decide +kernel
theorem d_M_keepsName_7 : decode b_M_keepsName 7 = .ok (.istore_n 2, 1) := by decide +kernel
theorem d_M_keepsName_8 : decode b_M_keepsName 8 = .ok (.iload_n 2, 1) := by decide +kernel
theorem d_M_keepsName_9 : decode b_M_keepsName 9 = .ok (.aload_n 0, 1) := by decide +kernel
theorem d_M_keepsName_10 : decode b_M_keepsName 10 = .ok (.getfield 185, 3) := by decide +kernel
theorem d_M_keepsName_13 : decode b_M_keepsName 13 = .ok (.if_icmp .ge 35, 3) := by decide +kernel
theorem d_M_keepsName_16 : decode b_M_keepsName 16 = .ok (.aload_n 0, 1) := by decide +kernel
theorem d_M_keepsName_17 : decode b_M_keepsName 17 = .ok (.getfield 72, 3) := by decide +kernel
theorem d_M_keepsName_20 : decode b_M_keepsName 20 = .ok (.iload_n 2, 1) := by decide +kernel
theorem d_M_keepsName_21 : decode b_M_keepsName 21 = .ok (.iaload, 1) := by decide +kernel
theorem d_M_keepsName_22 : decode b_M_keepsName 22 = .ok (.iconst 2, 1) := by decide +kernel
theorem d_M_keepsName_23 : decode b_M_keepsName 23 = .ok (.if_icmp .ge 19, 3) := by decide +kernel
theorem d_M_keepsName_26 : decode b_M_keepsName 26 = .ok (.aload_n 0, 1) := by decide +kernel
theorem d_M_keepsName_27 : decode b_M_keepsName 27 = .ok (.getfield 129, 3) := by decide +kernel
theorem d_M_keepsName_30 : decode b_M_keepsName 30 = .ok (.bipush 10, 2) := by decide +kernel
theorem d_M_keepsName_32 : decode b_M_keepsName 32 = .ok (.iload_n 2, 1) := by decide +kernel
theorem d_M_keepsName_33 : decode b_M_keepsName 33 = .ok (.imul, 1) := by decide +kernel
theorem d_M_keepsName_34 : decode b_M_keepsName 34 = .ok (.iload_n 1, 1) := by decide +kernel
theorem d_M_keepsName_35 : decode b_M_keepsName 35 = .ok (.iadd, 1) := by decide +kernel
theorem d_M_keepsName_36 : decode b_M_keepsName 36 = .ok (.baload, 1) := by decide +kernel
theorem d_M_keepsName_37 : decode b_M_keepsName 37 = .ok (.ifCond .eq 5, 3) := by decide +kernel
theorem d_M_keepsName_40 : decode b_M_keepsName 40 = .ok (.iconst 1, 1) := by decide +kernel
theorem d_M_keepsName_41 : decode b_M_keepsName 41 = .ok (.ireturn, 1) := by decide +kernel
theorem d_M_keepsName_42 : decode b_M_keepsName 42 = .ok (.iinc 2 1, 3) := by decide +kernel
theorem d_M_keepsName_45 : decode b_M_keepsName 45 = .ok (.goto (-37), 3) := by decide +kernel
theorem d_M_keepsName_48 : decode b_M_keepsName 48 = .ok (.iconst 0, 1) := by decide +kernel
theorem d_M_keepsName_49 : decode b_M_keepsName 49 = .ok (.ireturn, 1) := by decide +kernel
theorem d_M_keepsText_0 : decode b_M_keepsText 0 = .ok (.iload_n 1, 1) := by decide +kernel
theorem d_M_keepsText_1 : decode b_M_keepsText 1 = .ok (.iconst 1, 1) := by decide +kernel
theorem d_M_keepsText_2 : decode b_M_keepsText 2 = .ok (.if_icmp .ne 18, 3) := by decide +kernel
theorem d_M_keepsText_5 : decode b_M_keepsText 5 = .ok (.iload_n 2, 1) := by decide +kernel
theorem d_M_keepsText_6 : decode b_M_keepsText 6 = .ok (.iconst 5, 1) := by decide +kernel
theorem d_M_keepsText_7 : decode b_M_keepsText 7 = .ok (.if_icmp .gt 11, 3) := by decide +kernel
theorem d_M_keepsText_10 : decode b_M_keepsText 10 = .ok (.iload_n 2, 1) := by decide +kernel
theorem d_M_keepsText_11 : decode b_M_keepsText 11 = .ok (.ifCond .ne 9, 3) := by decide +kernel
theorem d_M_keepsText_14 : decode b_M_keepsText 14 = .ok (.iload_n 3, 1) := by decide +kernel
theorem d_M_keepsText_15 : decode b_M_keepsText 15 = .ok (.ifCond .ne 5, 3) := by decide +kernel
theorem d_M_keepsText_18 : decode b_M_keepsText 18 = .ok (.iconst 1, 1) := by decide +kernel
theorem d_M_keepsText_19 : decode b_M_keepsText 19 = .ok (.ireturn, 1) := by decide +kernel
theorem d_M_keepsText_20 : decode b_M_keepsText 20 = .ok (.iconst 1, 1) := by decide +kernel
theorem d_M_keepsText_21 : decode b_M_keepsText 21 = .ok (.istore 4, 2) := by decide +kernel
theorem d_M_keepsText_23 : decode b_M_keepsText 23 = .ok (.iload 4, 2) := by decide +kernel
theorem d_M_keepsText_25 : decode b_M_keepsText 25 = .ok (.aload_n 0, 1) := by decide +kernel
theorem d_M_keepsText_26 : decode b_M_keepsText 26 = .ok (.getfield 47, 3) := by decide +kernel
theorem d_M_keepsText_29 : decode b_M_keepsText 29 = .ok (.if_icmp .ge 126, 3) := by decide +kernel
theorem d_M_keepsText_32 : decode b_M_keepsText 32 = .ok (.aload_n 0, 1) := by decide +kernel
theorem d_M_keepsText_33 : decode b_M_keepsText 33 = .ok (.getfield 44, 3) := by decide +kernel
theorem d_M_keepsText_36 : decode b_M_keepsText 36 = .ok (.iload 4, 2) := by decide +kernel
theorem d_M_keepsText_38 : decode b_M_keepsText 38 = .ok (.baload, 1) := by decide +kernel
theorem d_M_keepsText_39 : decode b_M_keepsText 39 = .ok (.ifCond .ne 110, 3) := by decide +kernel
theorem d_M_keepsText_42 : decode b_M_keepsText 42 = .ok (.aload_n 0, 1) := by decide +kernel
theorem d_M_keepsText_43 : decode b_M_keepsText 43 = .ok (.getfield 41, 3) := by decide +kernel
theorem d_M_keepsText_46 : decode b_M_keepsText 46 = .ok (.iload 4, 2) := by decide +kernel
theorem d_M_keepsText_48 : decode b_M_keepsText 48 = .ok (.iaload, 1) := by decide +kernel
theorem d_M_keepsText_49 : decode b_M_keepsText 49 = .ok (.iconst 1, 1) := by decide +kernel
theorem d_M_keepsText_50 : decode b_M_keepsText 50 = .ok (.iand, 1) := by decide +kernel
theorem d_M_keepsText_51 : decode b_M_keepsText 51 = .ok (.iload_n 1, 1) := by decide +kernel
theorem d_M_keepsText_52 : decode b_M_keepsText 52 = .ok (.if_icmp .ne 97, 3) := by decide +kernel
theorem d_M_keepsText_55 : decode b_M_keepsText 55 = .ok (.aload_n 0, 1) := by decide +kernel
theorem d_M_keepsText_56 : decode b_M_keepsText 56 = .ok (.getfield 35, 3) := by decide +kernel
theorem d_M_keepsText_59 : decode b_M_keepsText 59 = .ok (.iload 4, 2) := by decide +kernel
theorem d_M_keepsText_61 : decode b_M_keepsText 61 = .ok (.iaload, 1) := by decide +kernel
theorem d_M_keepsText_62 : decode b_M_keepsText 62 = .ok (.iload_n 2, 1) := by decide +kernel
theorem d_M_keepsText_63 : decode b_M_keepsText 63 = .ok (.if_icmp .ne 86, 3) := by decide +kernel
theorem d_M_keepsText_66 : decode b_M_keepsText 66 = .ok (.aload_n 0, 1) := by decide +kernel
theorem d_M_keepsText_67 : decode b_M_keepsText 67 = .ok (.getfield 38, 3) := by decide +kernel
theorem d_M_keepsText_70 : decode b_M_keepsText 70 = .ok (.iload 4, 2) := by decide +kernel
theorem d_M_keepsText_72 : decode b_M_keepsText 72 = .ok (.iaload, 1) := by decide +kernel
theorem d_M_keepsText_73 : decode b_M_keepsText 73 = .ok (.iload_n 3, 1) := by decide +kernel
theorem d_M_keepsText_74 : decode b_M_keepsText 74 = .ok (.if_icmp .eq 6, 3) := by decide +kernel
theorem d_M_keepsText_77 : decode b_M_keepsText 77 = .ok (.goto 72, 3) := by decide +kernel
theorem d_M_keepsText_80 : decode b_M_keepsText 80 = .ok (.iconst 0, 1) := by decide +kernel
theorem d_M_keepsText_81 : decode b_M_keepsText 81 = .ok (.istore 5, 2) := by decide +kernel
theorem d_M_keepsText_83 : decode b_M_keepsText 83 = .ok (.iload 5, 2) := by decide +kernel
theorem d_M_keepsText_85 : decode b_M_keepsText 85 = .ok (.aload_n 0, 1) := by decide +kernel
theorem d_M_keepsText_86 : decode b_M_keepsText 86 = .ok (.getfield 185, 3) := by decide +kernel
theorem d_M_keepsText_89 : decode b_M_keepsText 89 = .ok (.if_icmp .ge 60, 3) := by decide +kernel
theorem d_M_keepsText_92 : decode b_M_keepsText 92 = .ok (.aload_n 0, 1) := by decide +kernel
theorem d_M_keepsText_93 : decode b_M_keepsText 93 = .ok (.getfield 72, 3) := by decide +kernel
theorem d_M_keepsText_96 : decode b_M_keepsText 96 = .ok (.iload 5, 2) := by decide +kernel
theorem d_M_keepsText_98 : decode b_M_keepsText 98 = .ok (.iaload, 1) := by decide +kernel
theorem d_M_keepsText_99 : decode b_M_keepsText 99 = .ok (.iconst 2, 1) := by decide +kernel
theorem d_M_keepsText_100 : decode b_M_keepsText 100 = .ok (.if_icmp .ne 18, 3) := by decide +kernel
theorem d_M_keepsText_103 : decode b_M_keepsText 103 = .ok (.aload_n 0, 1) := by decide +kernel
theorem d_M_keepsText_104 : decode b_M_keepsText 104 = .ok (.getfield 117, 3) := by decide +kernel
theorem d_M_keepsText_107 : decode b_M_keepsText 107 = .ok (.aload_n 0, 1) := by decide +kernel
theorem d_M_keepsText_108 : decode b_M_keepsText 108 = .ok (.getfield 32, 3) := by decide +kernel
theorem d_M_keepsText_111 : decode b_M_keepsText 111 = .ok (.iload 4, 2) := by decide +kernel
theorem d_M_keepsText_113 : decode b_M_keepsText 113 = .ok (.iaload, 1) := by decide +kernel
theorem d_M_keepsText_114 : decode b_M_keepsText 114 = .ok (.baload, 1) := by decide +kernel
theorem d_M_keepsText_115 : decode b_M_keepsText 115 = .ok (.ifCond .eq 18, 3) := by decide +kernel
theorem d_M_keepsText_118 : decode b_M_keepsText 118 = .ok (.aload_n 0, 1) := by decide +kernel
theorem d_M_keepsText_119 : decode b_M_keepsText 119 = .ok (.iload 5, 2) := by decide +kernel
theorem d_M_keepsText_121 : decode b_M_keepsText 121 = .ok (.iload 4, 2) := by decide +kernel
theorem d_M_keepsText_123 : decode b_M_keepsText 123 = .ok (.invokevirtual 237, 3) := by decide +kernel
theorem d_M_keepsText_126 : decode b_M_keepsText 126 = .ok (.ifCond .eq 7, 3) := by decide +kernel
theorem d_M_keepsText_129 : decode b_M_keepsText 129 = .ok (.iconst 1, 1) := by decide +kernel
theorem d_M_keepsText_130 : decode b_M_keepsText 130 = .ok (.goto 4, 3) := by decide +kernel
theorem d_M_keepsText_133 : decode b_M_keepsText 133 = .ok (.iconst 0, 1) := by decide +kernel
theorem d_M_keepsText_134 : decode b_M_keepsText 134 = .ok (.istore 6, 2) := by decide +kernel
theorem d_M_keepsText_136 : decode b_M_keepsText 136 = .ok (.iload 6, 2) := by decide +kernel
theorem d_M_keepsText_138 : decode b_M_keepsText 138 = .ok (.ifCond .eq 5, 3) := by decide +kernel
theorem d_M_keepsText_141 : decode b_M_keepsText 141 = .ok (.iconst 1, 1) := by decide +kernel
theorem d_M_keepsText_142 : decode b_M_keepsText 142 = .ok (.ireturn, 1) := by decide +kernel
theorem d_M_keepsText_143 : decode b_M_keepsText 143 = .ok (.iinc 5 1, 3) := by decide +kernel
theorem d_M_keepsText_146 : decode b_M_keepsText 146 = .ok (.goto (-63), 3) := by decide +kernel
theorem d_M_keepsText_149 : decode b_M_keepsText 149 = .ok (.iinc 4 1, 3) := by decide +kernel
theorem d_M_keepsText_152 : decode b_M_keepsText 152 = .ok (.goto (-129), 3) := by decide +kernel
theorem d_M_keepsText_155 : decode b_M_keepsText 155 = .ok (.iconst 0, 1) := by decide +kernel
theorem d_M_keepsText_156 : decode b_M_keepsText 156 = .ok (.ireturn, 1) := by decide +kernel
