theorem dX11_goes_210 : decode cX11_goes 210 = .ok (.ireturn, 1) := by decide +kernel
theorem dX11_goes_211 : decode cX11_goes 211 = .ok (.iconst 0, 1) := by decide +kernel
theorem dX11_goes_212 : decode cX11_goes 212 = .ok (.istore 8, 2) := by decide +kernel
theorem dX11_goes_214 : decode cX11_goes 214 = .ok (.iload 8, 2) := by decide +kernel
theorem dX11_goes_216 : decode cX11_goes 216 = .ok (.iload_n 2, 1) := by decide +kernel
theorem dX11_goes_217 : decode cX11_goes 217 = .ok (.if_icmp .ge 99, 3) := by decide +kernel
theorem dX11_goes_220 : decode cX11_goes 220 = .ok (.aload_n 3, 1) := by decide +kernel
theorem dX11_goes_221 : decode cX11_goes 221 = .ok (.iconst 4, 1) := by decide +kernel
theorem dX11_goes_222 : decode cX11_goes 222 = .ok (.iload 8, 2) := by decide +kernel
theorem dX11_goes_224 : decode cX11_goes 224 = .ok (.imul, 1) := by decide +kernel
theorem dX11_goes_225 : decode cX11_goes 225 = .ok (.iconst 3, 1) := by decide +kernel
theorem dX11_goes_226 : decode cX11_goes 226 = .ok (.iadd, 1) := by decide +kernel
theorem dX11_goes_227 : decode cX11_goes 227 = .ok (.iaload, 1) := by decide +kernel
theorem dX11_goes_228 : decode cX11_goes 228 = .ok (.aload_n 3, 1) := by decide +kernel
theorem dX11_goes_229 : decode cX11_goes 229 = .ok (.iconst 4, 1) := by decide +kernel
theorem dX11_goes_230 : decode cX11_goes 230 = .ok (.iload 8, 2) := by decide +kernel
theorem dX11_goes_232 : decode cX11_goes 232 = .ok (.imul, 1) := by decide +kernel
theorem dX11_goes_233 : decode cX11_goes 233 = .ok (.iconst 2, 1) := by decide +kernel
theorem dX11_goes_234 : decode cX11_goes 234 = .ok (.iadd, 1) := by decide +kernel
theorem dX11_goes_235 : decode cX11_goes 235 = .ok (.iaload, 1) := by decide +kernel
theorem dX11_goes_236 : decode cX11_goes 236 = .ok (.if_icmp .le 23, 3) := by decide +kernel
theorem dX11_goes_239 : decode cX11_goes 239 = .ok (.aload_n 3, 1) := by decide +kernel
theorem dX11_goes_240 : decode cX11_goes 240 = .ok (.iconst 4, 1) := by decide +kernel
theorem dX11_goes_241 : decode cX11_goes 241 = .ok (.iload 8, 2) := by decide +kernel
theorem dX11_goes_243 : decode cX11_goes 243 = .ok (.imul, 1) := by decide +kernel
theorem dX11_goes_244 : decode cX11_goes 244 = .ok (.iconst 3, 1) := by decide +kernel
theorem dX11_goes_245 : decode cX11_goes 245 = .ok (.iadd, 1) := by decide +kernel
theorem dX11_goes_246 : decode cX11_goes 246 = .ok (.iaload, 1) := by decide +kernel
theorem dX11_goes_247 : decode cX11_goes 247 = .ok (.aload_n 3, 1) := by decide +kernel
theorem dX11_goes_248 : decode cX11_goes 248 = .ok (.iconst 4, 1) := by decide +kernel
theorem dX11_goes_249 : decode cX11_goes 249 = .ok (.iload 8, 2) := by decide +kernel
theorem dX11_goes_251 : decode cX11_goes 251 = .ok (.imul, 1) := by decide +kernel
theorem dX11_goes_252 : decode cX11_goes 252 = .ok (.iconst 2, 1) := by decide +kernel
theorem dX11_goes_253 : decode cX11_goes 253 = .ok (.iadd, 1) := by decide +kernel
theorem dX11_goes_254 : decode cX11_goes 254 = .ok (.iaload, 1) := by decide +kernel
theorem dX11_goes_255 : decode cX11_goes 255 = .ok (.isub, 1) := by decide +kernel
theorem dX11_goes_256 : decode cX11_goes 256 = .ok (.goto 4, 3) := by decide +kernel
theorem dX11_goes_259 : decode cX11_goes 259 = .ok (.iconst 0, 1) := by decide +kernel
theorem dX11_goes_260 : decode cX11_goes 260 = .ok (.istore 9, 2) := by decide +kernel
theorem dX11_goes_262 : decode cX11_goes 262 = .ok (.aload_n 0, 1) := by decide +kernel
theorem dX11_goes_263 : decode cX11_goes 263 = .ok (.iload 8, 2) := by decide +kernel
theorem dX11_goes_265 : decode cX11_goes 265 = .ok (.iconst 4, 1) := by decide +kernel
theorem dX11_goes_266 : decode cX11_goes 266 = .ok (.invokevirtual 33, 3) := by decide +kernel
theorem dX11_goes_269 : decode cX11_goes 269 = .ok (.aload_n 3, 1) := by decide +kernel
theorem dX11_goes_270 : decode cX11_goes 270 = .ok (.iconst 4, 1) := by decide +kernel
theorem dX11_goes_271 : decode cX11_goes 271 = .ok (.iload 8, 2) := by decide +kernel
theorem dX11_goes_273 : decode cX11_goes 273 = .ok (.imul, 1) := by decide +kernel
theorem dX11_goes_274 : decode cX11_goes 274 = .ok (.iaload, 1) := by decide +kernel
theorem dX11_goes_275 : decode cX11_goes 275 = .ok (.if_icmp .ne 33, 3) := by decide +kernel
theorem dX11_goes_278 : decode cX11_goes 278 = .ok (.aload_n 0, 1) := by decide +kernel
theorem dX11_goes_279 : decode cX11_goes 279 = .ok (.iload 8, 2) := by decide +kernel
theorem dX11_goes_281 : decode cX11_goes 281 = .ok (.iconst 5, 1) := by decide +kernel
theorem dX11_goes_282 : decode cX11_goes 282 = .ok (.invokevirtual 33, 3) := by decide +kernel
theorem dX11_goes_285 : decode cX11_goes 285 = .ok (.aload_n 3, 1) := by decide +kernel
theorem dX11_goes_286 : decode cX11_goes 286 = .ok (.iconst 4, 1) := by decide +kernel
theorem dX11_goes_287 : decode cX11_goes 287 = .ok (.iload 8, 2) := by decide +kernel
theorem dX11_goes_289 : decode cX11_goes 289 = .ok (.imul, 1) := by decide +kernel
theorem dX11_goes_290 : decode cX11_goes 290 = .ok (.iconst 1, 1) := by decide +kernel
theorem dX11_goes_291 : decode cX11_goes 291 = .ok (.iadd, 1) := by decide +kernel
theorem dX11_goes_292 : decode cX11_goes 292 = .ok (.iaload, 1) := by decide +kernel
theorem dX11_goes_293 : decode cX11_goes 293 = .ok (.if_icmp .ne 15, 3) := by decide +kernel
theorem dX11_goes_296 : decode cX11_goes 296 = .ok (.aload_n 0, 1) := by decide +kernel
theorem dX11_goes_297 : decode cX11_goes 297 = .ok (.iload 8, 2) := by decide +kernel
theorem dX11_goes_299 : decode cX11_goes 299 = .ok (.iconst 2, 1) := by decide +kernel
theorem dX11_goes_300 : decode cX11_goes 300 = .ok (.invokevirtual 33, 3) := by decide +kernel
theorem dX11_goes_303 : decode cX11_goes 303 = .ok (.iload 9, 2) := by decide +kernel
theorem dX11_goes_305 : decode cX11_goes 305 = .ok (.if_icmp .eq 5, 3) := by decide +kernel
theorem dX11_goes_308 : decode cX11_goes 308 = .ok (.iconst 0, 1) := by decide +kernel
theorem dX11_goes_309 : decode cX11_goes 309 = .ok (.ireturn, 1) := by decide +kernel
theorem dX11_goes_310 : decode cX11_goes 310 = .ok (.iinc 8 1, 3) := by decide +kernel
theorem dX11_goes_313 : decode cX11_goes 313 = .ok (.goto (-99), 3) := by decide +kernel
theorem dX11_goes_316 : decode cX11_goes 316 = .ok (.iconst 1, 1) := by decide +kernel
theorem dX11_goes_317 : decode cX11_goes 317 = .ok (.ireturn, 1) := by decide +kernel
theorem dX11_lightest_0 : decode cX11_lightest 0 = .ok (.aload_n 0, 1) := by decide +kernel
theorem dX11_lightest_1 : decode cX11_lightest 1 = .ok (.iconst 1, 1) := by decide +kernel
theorem dX11_lightest_2 : decode cX11_lightest 2 = .ok (.invokevirtual 11, 3) := by decide +kernel
theorem dX11_lightest_5 : decode cX11_lightest 5 = .ok (.istore_n 2, 1) := by decide +kernel
theorem dX11_lightest_6 : decode cX11_lightest 6 = .ok (.aload_n 0, 1) := by decide +kernel
theorem dX11_lightest_7 : decode cX11_lightest 7 = .ok (.iconst 4, 1) := by decide +kernel
theorem dX11_lightest_8 : decode cX11_lightest 8 = .ok (.invokevirtual 11, 3) := by decide +kernel
theorem dX11_lightest_11 : decode cX11_lightest 11 = .ok (.istore_n 3, 1) := by decide +kernel
theorem dX11_lightest_12 : decode cX11_lightest 12 = .ok (.iload_n 2, 1) := by decide +kernel
theorem dX11_lightest_13 : decode cX11_lightest 13 = .ok (.ifCond .eq 10, 3) := by decide +kernel
theorem dX11_lightest_16 : decode cX11_lightest 16 = .ok (.iload_n 3, 1) := by decide +kernel
theorem dX11_lightest_17 : decode cX11_lightest 17 = .ok (.sipush 990, 3) := by decide +kernel
theorem dX11_lightest_20 : decode cX11_lightest 20 = .ok (.if_icmp .le 5, 3) := by decide +kernel
theorem dX11_lightest_23 : decode cX11_lightest 23 = .ok (.iconst 1, 1) := by decide +kernel
theorem dX11_lightest_24 : decode cX11_lightest 24 = .ok (.ireturn, 1) := by decide +kernel
theorem dX11_lightest_25 : decode cX11_lightest 25 = .ok (.iload_n 1, 1) := by decide +kernel
theorem dX11_lightest_26 : decode cX11_lightest 26 = .ok (.iload_n 2, 1) := by decide +kernel
theorem dX11_lightest_27 : decode cX11_lightest 27 = .ok (.invokestatic 98, 3) := by decide +kernel
theorem dX11_lightest_30 : decode cX11_lightest 30 = .ok (.istore 4, 2) := by decide +kernel
theorem dX11_lightest_32 : decode cX11_lightest 32 = .ok (.iload_n 3, 1) := by decide +kernel
theorem dX11_lightest_33 : decode cX11_lightest 33 = .ok (.iload_n 1, 1) := by decide +kernel
theorem dX11_lightest_34 : decode cX11_lightest 34 = .ok (.bipush 6, 2) := by decide +kernel
theorem dX11_lightest_36 : decode cX11_lightest 36 = .ok (.ishr, 1) := by decide +kernel
theorem dX11_lightest_37 : decode cX11_lightest 37 = .ok (.bipush 8, 2) := by decide +kernel
theorem dX11_lightest_39 : decode cX11_lightest 39 = .ok (.invokestatic 98, 3) := by decide +kernel
theorem dX11_lightest_42 : decode cX11_lightest 42 = .ok (.iadd, 1) := by decide +kernel
theorem dX11_lightest_43 : decode cX11_lightest 43 = .ok (.istore 5, 2) := by decide +kernel
theorem dX11_lightest_45 : decode cX11_lightest 45 = .ok (.bipush (-4), 2) := by decide +kernel
theorem dX11_lightest_47 : decode cX11_lightest 47 = .ok (.istore 6, 2) := by decide +kernel
theorem dX11_lightest_49 : decode cX11_lightest 49 = .ok (.iconst 0, 1) := by decide +kernel
theorem dX11_lightest_50 : decode cX11_lightest 50 = .ok (.istore 7, 2) := by decide +kernel
theorem dX11_lightest_52 : decode cX11_lightest 52 = .ok (.iconst 0, 1) := by decide +kernel
theorem dX11_lightest_53 : decode cX11_lightest 53 = .ok (.istore 8, 2) := by decide +kernel
theorem dX11_lightest_55 : decode cX11_lightest 55 = .ok (.iload 8, 2) := by decide +kernel
theorem dX11_lightest_57 : decode cX11_lightest 57 = .ok (.aload_n 0, 1) := by decide +kernel
theorem dX11_lightest_58 : decode cX11_lightest 58 = .ok (.iconst 2, 1) := by decide +kernel
theorem dX11_lightest_59 : decode cX11_lightest 59 = .ok (.invokevirtual 11, 3) := by decide +kernel
theorem dX11_lightest_62 : decode cX11_lightest 62 = .ok (.if_icmp .ge 107, 3) := by decide +kernel
theorem dX11_lightest_65 : decode cX11_lightest 65 = .ok (.aload_n 0, 1) := by decide +kernel
theorem dX11_lightest_66 : decode cX11_lightest 66 = .ok (.iload 8, 2) := by decide +kernel
theorem dX11_lightest_68 : decode cX11_lightest 68 = .ok (.iload 5, 2) := by decide +kernel
theorem dX11_lightest_70 : decode cX11_lightest 70 = .ok (.iconst 1, 1) := by decide +kernel
theorem dX11_lightest_71 : decode cX11_lightest 71 = .ok (.invokevirtual 80, 3) := by decide +kernel
theorem dX11_lightest_74 : decode cX11_lightest 74 = .ok (.istore 9, 2) := by decide +kernel
theorem dX11_lightest_76 : decode cX11_lightest 76 = .ok (.aload_n 0, 1) := by decide +kernel
theorem dX11_lightest_77 : decode cX11_lightest 77 = .ok (.iload 4, 2) := by decide +kernel
theorem dX11_lightest_79 : decode cX11_lightest 79 = .ok (.iload 8, 2) := by decide +kernel
theorem dX11_lightest_81 : decode cX11_lightest 81 = .ok (.invokevirtual 62, 3) := by decide +kernel
theorem dX11_lightest_84 : decode cX11_lightest 84 = .ok (.istore 10, 2) := by decide +kernel
theorem dX11_lightest_86 : decode cX11_lightest 86 = .ok (.iload 10, 2) := by decide +kernel
theorem dX11_lightest_88 : decode cX11_lightest 88 = .ok (.ifCond .lt 75, 3) := by decide +kernel
theorem dX11_lightest_91 : decode cX11_lightest 91 = .ok (.aload_n 0, 1) := by decide +kernel
theorem dX11_lightest_92 : decode cX11_lightest 92 = .ok (.iload 8, 2) := by decide +kernel
theorem dX11_lightest_94 : decode cX11_lightest 94 = .ok (.iload 5, 2) := by decide +kernel
theorem dX11_lightest_96 : decode cX11_lightest 96 = .ok (.iconst 1, 1) := by decide +kernel
theorem dX11_lightest_97 : decode cX11_lightest 97 = .ok (.invokevirtual 80, 3) := by decide +kernel
theorem dX11_lightest_100 : decode cX11_lightest 100 = .ok (.iload 9, 2) := by decide +kernel
theorem dX11_lightest_102 : decode cX11_lightest 102 = .ok (.isub, 1) := by decide +kernel
theorem dX11_lightest_103 : decode cX11_lightest 103 = .ok (.istore 11, 2) := by decide +kernel
theorem dX11_lightest_105 : decode cX11_lightest 105 = .ok (.iload 6, 2) := by decide +kernel
theorem dX11_lightest_107 : decode cX11_lightest 107 = .ok (.bipush (-4), 2) := by decide +kernel
theorem dX11_lightest_109 : decode cX11_lightest 109 = .ok (.if_icmp .eq 10, 3) := by decide +kernel
theorem dX11_lightest_112 : decode cX11_lightest 112 = .ok (.iload 11, 2) := by decide +kernel
theorem dX11_lightest_114 : decode cX11_lightest 114 = .ok (.iload 7, 2) := by decide +kernel
theorem dX11_lightest_116 : decode cX11_lightest 116 = .ok (.if_icmp .ge 7, 3) := by decide +kernel
theorem dX11_lightest_119 : decode cX11_lightest 119 = .ok (.iconst 1, 1) := by decide +kernel
theorem dX11_lightest_120 : decode cX11_lightest 120 = .ok (.goto 4, 3) := by decide +kernel
theorem dX11_lightest_123 : decode cX11_lightest 123 = .ok (.iconst 0, 1) := by decide +kernel
theorem dX11_lightest_124 : decode cX11_lightest 124 = .ok (.istore 12, 2) := by decide +kernel
theorem dX11_lightest_126 : decode cX11_lightest 126 = .ok (.iload 12, 2) := by decide +kernel
theorem dX11_lightest_128 : decode cX11_lightest 128 = .ok (.ifCond .eq 8, 3) := by decide +kernel
theorem dX11_lightest_131 : decode cX11_lightest 131 = .ok (.iload 8, 2) := by decide +kernel
theorem dX11_lightest_133 : decode cX11_lightest 133 = .ok (.goto 5, 3) := by decide +kernel
theorem dX11_lightest_136 : decode cX11_lightest 136 = .ok (.iload 6, 2) := by decide +kernel
theorem dX11_lightest_138 : decode cX11_lightest 138 = .ok (.istore 6, 2) := by decide +kernel
theorem dX11_lightest_140 : decode cX11_lightest 140 = .ok (.iload 12, 2) := by decide +kernel
theorem dX11_lightest_142 : decode cX11_lightest 142 = .ok (.ifCond .eq 8, 3) := by decide +kernel
theorem dX11_lightest_145 : decode cX11_lightest 145 = .ok (.iload 11, 2) := by decide +kernel
theorem dX11_lightest_147 : decode cX11_lightest 147 = .ok (.goto 5, 3) := by decide +kernel
theorem dX11_lightest_150 : decode cX11_lightest 150 = .ok (.iload 7, 2) := by decide +kernel
theorem dX11_lightest_152 : decode cX11_lightest 152 = .ok (.istore 7, 2) := by decide +kernel
theorem dX11_lightest_154 : decode cX11_lightest 154 = .ok (.aload_n 0, 1) := by decide +kernel
theorem dX11_lightest_155 : decode cX11_lightest 155 = .ok (.invokevirtual 101, 3) := by decide +kernel
theorem dX11_lightest_158 : decode cX11_lightest 158 = .ok (.ifCond .ge 5, 3) := by decide +kernel
theorem dX11_lightest_161 : decode cX11_lightest 161 = .ok (.iconst 0, 1) := by decide +kernel
theorem dX11_lightest_162 : decode cX11_lightest 162 = .ok (.ireturn, 1) := by decide +kernel
theorem dX11_lightest_163 : decode cX11_lightest 163 = .ok (.iinc 8 1, 3) := by decide +kernel
theorem dX11_lightest_166 : decode cX11_lightest 166 = .ok (.goto (-111), 3) := by decide +kernel
theorem dX11_lightest_169 : decode cX11_lightest 169 = .ok (.aload_n 0, 1) := by decide +kernel
theorem dX11_lightest_170 : decode cX11_lightest 170 = .ok (.iload 4, 2) := by decide +kernel
theorem dX11_lightest_172 : decode cX11_lightest 172 = .ok (.iload 5, 2) := by decide +kernel
theorem dX11_lightest_174 : decode cX11_lightest 174 = .ok (.invokevirtual 83, 3) := by decide +kernel
theorem dX11_lightest_177 : decode cX11_lightest 177 = .ok (.iload 6, 2) := by decide +kernel
theorem dX11_lightest_179 : decode cX11_lightest 179 = .ok (.if_icmp .ne 7, 3) := by decide +kernel
theorem dX11_lightest_182 : decode cX11_lightest 182 = .ok (.iconst 1, 1) := by decide +kernel
theorem dX11_lightest_183 : decode cX11_lightest 183 = .ok (.goto 4, 3) := by decide +kernel
theorem dX11_lightest_186 : decode cX11_lightest 186 = .ok (.iconst 0, 1) := by decide +kernel
theorem dX11_lightest_187 : decode cX11_lightest 187 = .ok (.ireturn, 1) := by decide +kernel
theorem dX11_act_0 : decode cX11_act 0 = .ok (.iload_n 1, 1) := by decide +kernel
theorem dX11_act_1 : decode cX11_act 1 = .ok (.iconst 4, 1) := by decide +kernel
theorem dX11_act_2 : decode cX11_act 2 = .ok (.ishr, 1) := by decide +kernel
theorem dX11_act_3 : decode cX11_act 3 = .ok (.aload_n 0, 1) := by decide +kernel
theorem dX11_act_4 : decode cX11_act 4 = .ok (.iconst 1, 1) := by decide +kernel
theorem dX11_act_5 : decode cX11_act 5 = .ok (.invokevirtual 11, 3) := by decide +kernel
theorem dX11_act_8 : decode cX11_act 8 = .ok (.iconst 1, 1) := by decide +kernel
theorem dX11_act_9 : decode cX11_act 9 = .ok (.iadd, 1) := by decide +kernel
theorem dX11_act_10 : decode cX11_act 10 = .ok (.invokestatic 98, 3) := by decide +kernel
theorem dX11_act_13 : decode cX11_act 13 = .ok (.istore_n 2, 1) := by decide +kernel
theorem dX11_act_14 : decode cX11_act 14 = .ok (.iload_n 1, 1) := by decide +kernel
theorem dX11_act_15 : decode cX11_act 15 = .ok (.bipush 9, 2) := by decide +kernel
theorem dX11_act_17 : decode cX11_act 17 = .ok (.ishr, 1) := by decide +kernel
theorem dX11_act_18 : decode cX11_act 18 = .ok (.aload_n 0, 1) := by decide +kernel
theorem dX11_act_19 : decode cX11_act 19 = .ok (.iconst 2, 1) := by decide +kernel
theorem dX11_act_20 : decode cX11_act 20 = .ok (.invokevirtual 11, 3) := by decide +kernel
theorem dX11_act_23 : decode cX11_act 23 = .ok (.invokestatic 98, 3) := by decide +kernel
theorem dX11_act_26 : decode cX11_act 26 = .ok (.istore_n 3, 1) := by decide +kernel
theorem dX11_act_27 : decode cX11_act 27 = .ok (.aload_n 0, 1) := by decide +kernel
theorem dX11_act_28 : decode cX11_act 28 = .ok (.iconst 4, 1) := by decide +kernel
theorem dX11_act_29 : decode cX11_act 29 = .ok (.invokevirtual 11, 3) := by decide +kernel
theorem dX11_act_32 : decode cX11_act 32 = .ok (.istore 4, 2) := by decide +kernel
theorem dX11_act_34 : decode cX11_act 34 = .ok (.iload_n 1, 1) := by decide +kernel
theorem dX11_act_35 : decode cX11_act 35 = .ok (.bipush 12, 2) := by decide +kernel
theorem dX11_act_37 : decode cX11_act 37 = .ok (.invokestatic 98, 3) := by decide +kernel
theorem dX11_act_40 : decode cX11_act 40 = .ok (.tableswitch 214 0 9 #[56, 95, 95, 125, 125, 125, 132, 138, 155, 177], 56) := by decide +kernel
theorem dX11_act_96 : decode cX11_act 96 = .ok (.aload_n 0, 1) := by decide +kernel
theorem dX11_act_97 : decode cX11_act 97 = .ok (.iload_n 2, 1) := by decide +kernel
theorem dX11_act_98 : decode cX11_act 98 = .ok (.iload_n 1, 1) := by decide +kernel
theorem dX11_act_99 : decode cX11_act 99 = .ok (.bipush 11, 2) := by decide +kernel
theorem dX11_act_101 : decode cX11_act 101 = .ok (.ishr, 1) := by decide +kernel
theorem dX11_act_102 : decode cX11_act 102 = .ok (.iconst 3, 1) := by decide +kernel
theorem dX11_act_103 : decode cX11_act 103 = .ok (.iand, 1) := by decide +kernel
theorem dX11_act_104 : decode cX11_act 104 = .ok (.ifCond .ne 7, 3) := by decide +kernel
theorem dX11_act_107 : decode cX11_act 107 = .ok (.iconst 0, 1) := by decide +kernel
theorem dX11_act_108 : decode cX11_act 108 = .ok (.goto 14, 3) := by decide +kernel
theorem dX11_act_111 : decode cX11_act 111 = .ok (.iconst 2, 1) := by decide +kernel
theorem dX11_act_112 : decode cX11_act 112 = .ok (.iload_n 1, 1) := by decide +kernel
theorem dX11_act_113 : decode cX11_act 113 = .ok (.bipush 13, 2) := by decide +kernel
theorem dX11_act_115 : decode cX11_act 115 = .ok (.ishr, 1) := by decide +kernel
theorem dX11_act_116 : decode cX11_act 116 = .ok (.bipush 8, 2) := by decide +kernel
theorem dX11_act_118 : decode cX11_act 118 = .ok (.invokestatic 98, 3) := by decide +kernel
theorem dX11_act_121 : decode cX11_act 121 = .ok (.iadd, 1) := by decide +kernel
theorem dX11_act_122 : decode cX11_act 122 = .ok (.iload_n 1, 1) := by decide +kernel
theorem dX11_act_123 : decode cX11_act 123 = .ok (.bipush 17, 2) := by decide +kernel
theorem dX11_act_125 : decode cX11_act 125 = .ok (.ishr, 1) := by decide +kernel
theorem dX11_act_126 : decode cX11_act 126 = .ok (.bipush 9, 2) := by decide +kernel
theorem dX11_act_128 : decode cX11_act 128 = .ok (.invokestatic 98, 3) := by decide +kernel
theorem dX11_act_131 : decode cX11_act 131 = .ok (.invokevirtual 53, 3) := by decide +kernel
theorem dX11_act_134 : decode cX11_act 134 = .ok (.ireturn, 1) := by decide +kernel
theorem dX11_act_135 : decode cX11_act 135 = .ok (.aload_n 0, 1) := by decide +kernel
theorem dX11_act_136 : decode cX11_act 136 = .ok (.iload_n 2, 1) := by decide +kernel
theorem dX11_act_137 : decode cX11_act 137 = .ok (.iload 4, 2) := by decide +kernel
theorem dX11_act_139 : decode cX11_act 139 = .ok (.iload_n 1, 1) := by decide +kernel
theorem dX11_act_140 : decode cX11_act 140 = .ok (.bipush 12, 2) := by decide +kernel
theorem dX11_act_142 : decode cX11_act 142 = .ok (.ishr, 1) := by decide +kernel
theorem dX11_act_143 : decode cX11_act 143 = .ok (.bipush 6, 2) := by decide +kernel
theorem dX11_act_145 : decode cX11_act 145 = .ok (.invokestatic 98, 3) := by decide +kernel
theorem dX11_act_148 : decode cX11_act 148 = .ok (.iadd, 1) := by decide +kernel
theorem dX11_act_149 : decode cX11_act 149 = .ok (.iload 4, 2) := by decide +kernel
theorem dX11_act_151 : decode cX11_act 151 = .ok (.iload_n 1, 1) := by decide +kernel
theorem dX11_act_152 : decode cX11_act 152 = .ok (.bipush 15, 2) := by decide +kernel
theorem dX11_act_154 : decode cX11_act 154 = .ok (.ishr, 1) := by decide +kernel
theorem dX11_act_155 : decode cX11_act 155 = .ok (.bipush 12, 2) := by decide +kernel
theorem dX11_act_157 : decode cX11_act 157 = .ok (.invokestatic 98, 3) := by decide +kernel
theorem dX11_act_160 : decode cX11_act 160 = .ok (.iadd, 1) := by decide +kernel
theorem dX11_act_161 : decode cX11_act 161 = .ok (.invokevirtual 56, 3) := by decide +kernel
theorem dX11_act_164 : decode cX11_act 164 = .ok (.ireturn, 1) := by decide +kernel
theorem dX11_act_165 : decode cX11_act 165 = .ok (.aload_n 0, 1) := by decide +kernel
theorem dX11_act_166 : decode cX11_act 166 = .ok (.iload_n 2, 1) := by decide +kernel
theorem dX11_act_167 : decode cX11_act 167 = .ok (.iload_n 3, 1) := by decide +kernel
theorem dX11_act_168 : decode cX11_act 168 = .ok (.invokevirtual 62, 3) := by decide +kernel
theorem dX11_act_171 : decode cX11_act 171 = .ok (.ireturn, 1) := by decide +kernel
theorem dX11_act_172 : decode cX11_act 172 = .ok (.aload_n 0, 1) := by decide +kernel
theorem dX11_act_173 : decode cX11_act 173 = .ok (.iload_n 2, 1) := by decide +kernel
theorem dX11_act_174 : decode cX11_act 174 = .ok (.invokevirtual 65, 3) := by decide +kernel
theorem dX11_act_177 : decode cX11_act 177 = .ok (.ireturn, 1) := by decide +kernel
theorem dX11_act_178 : decode cX11_act 178 = .ok (.aload_n 0, 1) := by decide +kernel
theorem dX11_act_179 : decode cX11_act 179 = .ok (.iload_n 3, 1) := by decide +kernel
theorem dX11_act_180 : decode cX11_act 180 = .ok (.iconst 1, 1) := by decide +kernel
theorem dX11_act_181 : decode cX11_act 181 = .ok (.iload_n 1, 1) := by decide +kernel
theorem dX11_act_182 : decode cX11_act 182 = .ok (.bipush 12, 2) := by decide +kernel
theorem dX11_act_184 : decode cX11_act 184 = .ok (.ishr, 1) := by decide +kernel
theorem dX11_act_185 : decode cX11_act 185 = .ok (.bipush 6, 2) := by decide +kernel
theorem dX11_act_187 : decode cX11_act 187 = .ok (.invokestatic 98, 3) := by decide +kernel
theorem dX11_act_190 : decode cX11_act 190 = .ok (.iadd, 1) := by decide +kernel
theorem dX11_act_191 : decode cX11_act 191 = .ok (.invokevirtual 68, 3) := by decide +kernel
theorem dX11_act_194 : decode cX11_act 194 = .ok (.ireturn, 1) := by decide +kernel
theorem dX11_act_195 : decode cX11_act 195 = .ok (.aload_n 0, 1) := by decide +kernel
theorem dX11_act_196 : decode cX11_act 196 = .ok (.iload_n 1, 1) := by decide +kernel
theorem dX11_act_197 : decode cX11_act 197 = .ok (.bipush 12, 2) := by decide +kernel
theorem dX11_act_199 : decode cX11_act 199 = .ok (.ishr, 1) := by decide +kernel
theorem dX11_act_200 : decode cX11_act 200 = .ok (.iconst 1, 1) := by decide +kernel
theorem dX11_act_201 : decode cX11_act 201 = .ok (.iand, 1) := by decide +kernel
theorem dX11_act_202 : decode cX11_act 202 = .ok (.iconst 1, 1) := by decide +kernel
theorem dX11_act_203 : decode cX11_act 203 = .ok (.iload_n 1, 1) := by decide +kernel
theorem dX11_act_204 : decode cX11_act 204 = .ok (.bipush 13, 2) := by decide +kernel
theorem dX11_act_206 : decode cX11_act 206 = .ok (.ishr, 1) := by decide +kernel
theorem dX11_act_207 : decode cX11_act 207 = .ok (.bipush 20, 2) := by decide +kernel
theorem dX11_act_209 : decode cX11_act 209 = .ok (.invokestatic 98, 3) := by decide +kernel
theorem dX11_act_212 : decode cX11_act 212 = .ok (.iadd, 1) := by decide +kernel
theorem dX11_act_213 : decode cX11_act 213 = .ok (.invokevirtual 71, 3) := by decide +kernel
theorem dX11_act_216 : decode cX11_act 216 = .ok (.ireturn, 1) := by decide +kernel
theorem dX11_act_217 : decode cX11_act 217 = .ok (.aload_n 0, 1) := by decide +kernel
theorem dX11_act_218 : decode cX11_act 218 = .ok (.iload_n 1, 1) := by decide +kernel
theorem dX11_act_219 : decode cX11_act 219 = .ok (.bipush 12, 2) := by decide +kernel
theorem dX11_act_221 : decode cX11_act 221 = .ok (.ishr, 1) := by decide +kernel
theorem dX11_act_222 : decode cX11_act 222 = .ok (.aload_n 0, 1) := by decide +kernel
theorem dX11_act_223 : decode cX11_act 223 = .ok (.iconst 0, 1) := by decide +kernel
theorem dX11_act_224 : decode cX11_act 224 = .ok (.invokevirtual 11, 3) := by decide +kernel
theorem dX11_act_227 : decode cX11_act 227 = .ok (.invokestatic 98, 3) := by decide +kernel
theorem dX11_act_230 : decode cX11_act 230 = .ok (.iconst 1, 1) := by decide +kernel
theorem dX11_act_231 : decode cX11_act 231 = .ok (.iload_n 1, 1) := by decide +kernel
theorem dX11_act_232 : decode cX11_act 232 = .ok (.bipush 17, 2) := by decide +kernel
theorem dX11_act_234 : decode cX11_act 234 = .ok (.ishr, 1) := by decide +kernel
theorem dX11_act_235 : decode cX11_act 235 = .ok (.iconst 5, 1) := by decide +kernel
theorem dX11_act_236 : decode cX11_act 236 = .ok (.invokestatic 98, 3) := by decide +kernel
theorem dX11_act_239 : decode cX11_act 239 = .ok (.iadd, 1) := by decide +kernel
theorem dX11_act_240 : decode cX11_act 240 = .ok (.iload_n 1, 1) := by decide +kernel
theorem dX11_act_241 : decode cX11_act 241 = .ok (.bipush 20, 2) := by decide +kernel
theorem dX11_act_243 : decode cX11_act 243 = .ok (.ishr, 1) := by decide +kernel
theorem dX11_act_244 : decode cX11_act 244 = .ok (.sipush 501, 3) := by decide +kernel
theorem dX11_act_247 : decode cX11_act 247 = .ok (.invokestatic 98, 3) := by decide +kernel
theorem dX11_act_250 : decode cX11_act 250 = .ok (.invokevirtual 49, 3) := by decide +kernel
theorem dX11_act_253 : decode cX11_act 253 = .ok (.ireturn, 1) := by decide +kernel
theorem dX11_act_254 : decode cX11_act 254 = .ok (.bipush (-9), 2) := by decide +kernel
theorem dX11_act_256 : decode cX11_act 256 = .ok (.ireturn, 1) := by decide +kernel
theorem dX11_bundle_0 : decode cX11_bundle 0 = .ok (.iconst 0, 1) := by decide +kernel
theorem dX11_bundle_1 : decode cX11_bundle 1 = .ok (.istore_n 1, 1) := by decide +kernel
theorem dX11_bundle_2 : decode cX11_bundle 2 = .ok (.iconst 0, 1) := by decide +kernel
theorem dX11_bundle_3 : decode cX11_bundle 3 = .ok (.istore_n 2, 1) := by decide +kernel
theorem dX11_bundle_4 : decode cX11_bundle 4 = .ok (.iload_n 2, 1) := by decide +kernel
theorem dX11_bundle_5 : decode cX11_bundle 5 = .ok (.aload_n 0, 1) := by decide +kernel
theorem dX11_bundle_6 : decode cX11_bundle 6 = .ok (.iconst 1, 1) := by decide +kernel
theorem dX11_bundle_7 : decode cX11_bundle 7 = .ok (.invokevirtual 11, 3) := by decide +kernel
theorem dX11_bundle_10 : decode cX11_bundle 10 = .ok (.if_icmp .ge 18, 3) := by decide +kernel
theorem dX11_bundle_13 : decode cX11_bundle 13 = .ok (.iload_n 1, 1) := by decide +kernel
theorem dX11_bundle_14 : decode cX11_bundle 14 = .ok (.aload_n 0, 1) := by decide +kernel
theorem dX11_bundle_15 : decode cX11_bundle 15 = .ok (.iload_n 2, 1) := by decide +kernel
theorem dX11_bundle_16 : decode cX11_bundle 16 = .ok (.iconst 1, 1) := by decide +kernel
theorem dX11_bundle_17 : decode cX11_bundle 17 = .ok (.invokevirtual 24, 3) := by decide +kernel
theorem dX11_bundle_20 : decode cX11_bundle 20 = .ok (.iadd, 1) := by decide +kernel
theorem dX11_bundle_21 : decode cX11_bundle 21 = .ok (.istore_n 1, 1) := by decide +kernel
theorem dX11_bundle_22 : decode cX11_bundle 22 = .ok (.iinc 2 1, 3) := by decide +kernel
theorem dX11_bundle_25 : decode cX11_bundle 25 = .ok (.goto (-21), 3) := by decide +kernel
theorem dX11_bundle_28 : decode cX11_bundle 28 = .ok (.iload_n 1, 1) := by decide +kernel
theorem dX11_bundle_29 : decode cX11_bundle 29 = .ok (.ireturn, 1) := by decide +kernel
theorem dX11_law_0 : decode cX11_law 0 = .ok (.new 12, 3) := by decide +kernel
theorem dX11_law_3 : decode cX11_law 3 = .ok (.dup, 1) := by decide +kernel
theorem dX11_law_4 : decode cX11_law 4 = .ok (.invokespecial 104, 3) := by decide +kernel
theorem dX11_law_7 : decode cX11_law 7 = .ok (.astore_n 1, 1) := by decide +kernel
theorem dX11_law_8 : decode cX11_law 8 = .ok (.aload_n 1, 1) := by decide +kernel
theorem dX11_law_9 : decode cX11_law 9 = .ok (.invokevirtual 101, 3) := by decide +kernel
theorem dX11_law_12 : decode cX11_law 12 = .ok (.bipush (-2), 2) := by decide +kernel
theorem dX11_law_14 : decode cX11_law 14 = .ok (.if_icmp .ne 81, 3) := by decide +kernel
theorem dX11_law_17 : decode cX11_law 17 = .ok (.aload_n 1, 1) := by decide +kernel
theorem dX11_law_18 : decode cX11_law 18 = .ok (.iconst 0, 1) := by decide +kernel
theorem dX11_law_19 : decode cX11_law 19 = .ok (.invokevirtual 11, 3) := by decide +kernel
theorem dX11_law_22 : decode cX11_law 22 = .ok (.iconst 1, 1) := by decide +kernel
theorem dX11_law_23 : decode cX11_law 23 = .ok (.if_icmp .ne 72, 3) := by decide +kernel
theorem dX11_law_26 : decode cX11_law 26 = .ok (.aload_n 1, 1) := by decide +kernel
theorem dX11_law_27 : decode cX11_law 27 = .ok (.bipush 20, 2) := by decide +kernel
theorem dX11_law_29 : decode cX11_law 29 = .ok (.invokevirtual 11, 3) := by decide +kernel
theorem dX11_law_32 : decode cX11_law 32 = .ok (.iconst 3, 1) := by decide +kernel
theorem dX11_law_33 : decode cX11_law 33 = .ok (.if_icmp .ne 62, 3) := by decide +kernel
theorem dX11_law_36 : decode cX11_law 36 = .ok (.aload_n 1, 1) := by decide +kernel
theorem dX11_law_37 : decode cX11_law 37 = .ok (.bipush 21, 2) := by decide +kernel
theorem dX11_law_39 : decode cX11_law 39 = .ok (.invokevirtual 11, 3) := by decide +kernel
theorem dX11_law_42 : decode cX11_law 42 = .ok (.bipush 8, 2) := by decide +kernel
theorem dX11_law_44 : decode cX11_law 44 = .ok (.if_icmp .ne 51, 3) := by decide +kernel
theorem dX11_law_47 : decode cX11_law 47 = .ok (.aload_n 1, 1) := by decide +kernel
theorem dX11_law_48 : decode cX11_law 48 = .ok (.invokevirtual 105, 3) := by decide +kernel
theorem dX11_law_51 : decode cX11_law 51 = .ok (.ifCond .ne 44, 3) := by decide +kernel
theorem dX11_law_54 : decode cX11_law 54 = .ok (.aload_n 1, 1) := by decide +kernel
theorem dX11_law_55 : decode cX11_law 55 = .ok (.invokevirtual 101, 3) := by decide +kernel
theorem dX11_law_58 : decode cX11_law 58 = .ok (.ifCond .ne 37, 3) := by decide +kernel
theorem dX11_law_61 : decode cX11_law 61 = .ok (.aload_n 1, 1) := by decide +kernel
theorem dX11_law_62 : decode cX11_law 62 = .ok (.iconst 0, 1) := by decide +kernel
theorem dX11_law_63 : decode cX11_law 63 = .ok (.invokevirtual 89, 3) := by decide +kernel
theorem dX11_law_66 : decode cX11_law 66 = .ok (.bipush (-4), 2) := by decide +kernel
theorem dX11_law_68 : decode cX11_law 68 = .ok (.if_icmp .ne 27, 3) := by decide +kernel
theorem dX11_law_71 : decode cX11_law 71 = .ok (.aload_n 1, 1) := by decide +kernel
theorem dX11_law_72 : decode cX11_law 72 = .ok (.invokevirtual 94, 3) := by decide +kernel
theorem dX11_law_75 : decode cX11_law 75 = .ok (.bipush (-4), 2) := by decide +kernel
theorem dX11_law_77 : decode cX11_law 77 = .ok (.if_icmp .ne 18, 3) := by decide +kernel
theorem dX11_law_80 : decode cX11_law 80 = .ok (.aload_n 1, 1) := by decide +kernel
theorem dX11_law_81 : decode cX11_law 81 = .ok (.iconst 1, 1) := by decide +kernel
theorem dX11_law_82 : decode cX11_law 82 = .ok (.invokevirtual 74, 3) := by decide +kernel
theorem dX11_law_85 : decode cX11_law 85 = .ok (.ifCond .ne 10, 3) := by decide +kernel
theorem dX11_law_88 : decode cX11_law 88 = .ok (.aload_n 1, 1) := by decide +kernel
theorem dX11_law_89 : decode cX11_law 89 = .ok (.invokestatic 108, 3) := by decide +kernel
theorem dX11_law_92 : decode cX11_law 92 = .ok (.ifCond .ne 5, 3) := by decide +kernel
theorem dX11_law_95 : decode cX11_law 95 = .ok (.iconst 0, 1) := by decide +kernel
theorem dX11_law_96 : decode cX11_law 96 = .ok (.ireturn, 1) := by decide +kernel
theorem dX11_law_97 : decode cX11_law 97 = .ok (.iconst 1, 1) := by decide +kernel
theorem dX11_law_98 : decode cX11_law 98 = .ok (.aload_n 0, 1) := by decide +kernel
theorem dX11_law_99 : decode cX11_law 99 = .ok (.iconst 0, 1) := by decide +kernel
theorem dX11_law_100 : decode cX11_law 100 = .ok (.invokestatic 112, 3) := by decide +kernel
theorem dX11_law_103 : decode cX11_law 103 = .ok (.bipush 7, 2) := by decide +kernel
theorem dX11_law_105 : decode cX11_law 105 = .ok (.invokestatic 98, 3) := by decide +kernel
theorem dX11_law_108 : decode cX11_law 108 = .ok (.iadd, 1) := by decide +kernel
theorem dX11_law_109 : decode cX11_law 109 = .ok (.istore_n 2, 1) := by decide +kernel
theorem dX11_law_110 : decode cX11_law 110 = .ok (.iconst 1, 1) := by decide +kernel
theorem dX11_law_111 : decode cX11_law 111 = .ok (.istore_n 3, 1) := by decide +kernel
theorem dX11_law_112 : decode cX11_law 112 = .ok (.iload_n 3, 1) := by decide +kernel
theorem dX11_law_113 : decode cX11_law 113 = .ok (.iload_n 2, 1) := by decide +kernel
theorem dX11_law_114 : decode cX11_law 114 = .ok (.if_icmp .gt 68, 3) := by decide +kernel
theorem dX11_law_117 : decode cX11_law 117 = .ok (.aload_n 0, 1) := by decide +kernel
theorem dX11_law_118 : decode cX11_law 118 = .ok (.iload_n 3, 1) := by decide +kernel
theorem dX11_law_119 : decode cX11_law 119 = .ok (.invokestatic 112, 3) := by decide +kernel
theorem dX11_law_122 : decode cX11_law 122 = .ok (.istore 4, 2) := by decide +kernel
theorem dX11_law_124 : decode cX11_law 124 = .ok (.aload_n 1, 1) := by decide +kernel
theorem dX11_law_125 : decode cX11_law 125 = .ok (.iload 4, 2) := by decide +kernel
theorem dX11_law_127 : decode cX11_law 127 = .ok (.iload_n 3, 1) := by decide +kernel
theorem dX11_law_128 : decode cX11_law 128 = .ok (.invokestatic 98, 3) := by decide +kernel
theorem dX11_law_131 : decode cX11_law 131 = .ok (.iconst 1, 1) := by decide +kernel
theorem dX11_law_132 : decode cX11_law 132 = .ok (.iload 4, 2) := by decide +kernel
theorem dX11_law_134 : decode cX11_law 134 = .ok (.iconst 4, 1) := by decide +kernel
theorem dX11_law_135 : decode cX11_law 135 = .ok (.ishr, 1) := by decide +kernel
theorem dX11_law_136 : decode cX11_law 136 = .ok (.bipush 50, 2) := by decide +kernel
theorem dX11_law_138 : decode cX11_law 138 = .ok (.invokestatic 98, 3) := by decide +kernel
theorem dX11_law_141 : decode cX11_law 141 = .ok (.iadd, 1) := by decide +kernel
theorem dX11_law_142 : decode cX11_law 142 = .ok (.iload 4, 2) := by decide +kernel
theorem dX11_law_144 : decode cX11_law 144 = .ok (.bipush 10, 2) := by decide +kernel
theorem dX11_law_146 : decode cX11_law 146 = .ok (.ishr, 1) := by decide +kernel
theorem dX11_law_147 : decode cX11_law 147 = .ok (.bipush 101, 2) := by decide +kernel
theorem dX11_law_149 : decode cX11_law 149 = .ok (.invokestatic 98, 3) := by decide +kernel
theorem dX11_law_152 : decode cX11_law 152 = .ok (.iload 4, 2) := by decide +kernel
theorem dX11_law_154 : decode cX11_law 154 = .ok (.bipush 17, 2) := by decide +kernel
theorem dX11_law_156 : decode cX11_law 156 = .ok (.ishr, 1) := by decide +kernel
theorem dX11_law_157 : decode cX11_law 157 = .ok (.iconst 3, 1) := by decide +kernel
theorem dX11_law_158 : decode cX11_law 158 = .ok (.iand, 1) := by decide +kernel
theorem dX11_law_159 : decode cX11_law 159 = .ok (.ifCond .ne 7, 3) := by decide +kernel
theorem dX11_law_162 : decode cX11_law 162 = .ok (.iconst 1, 1) := by decide +kernel
theorem dX11_law_163 : decode cX11_law 163 = .ok (.goto 4, 3) := by decide +kernel
theorem dX11_law_166 : decode cX11_law 166 = .ok (.iconst 0, 1) := by decide +kernel
theorem dX11_law_167 : decode cX11_law 167 = .ok (.invokevirtual 45, 3) := by decide +kernel
theorem dX11_law_170 : decode cX11_law 170 = .ok (.iload_n 3, 1) := by decide +kernel
theorem dX11_law_171 : decode cX11_law 171 = .ok (.if_icmp .eq 5, 3) := by decide +kernel
theorem dX11_law_174 : decode cX11_law 174 = .ok (.iconst 0, 1) := by decide +kernel
theorem dX11_law_175 : decode cX11_law 175 = .ok (.ireturn, 1) := by decide +kernel
theorem dX11_law_176 : decode cX11_law 176 = .ok (.iinc 3 1, 3) := by decide +kernel
theorem dX11_law_179 : decode cX11_law 179 = .ok (.goto (-67), 3) := by decide +kernel
theorem dX11_law_182 : decode cX11_law 182 = .ok (.iconst 1, 1) := by decide +kernel
theorem dX11_law_183 : decode cX11_law 183 = .ok (.aload_n 0, 1) := by decide +kernel
theorem dX11_law_184 : decode cX11_law 184 = .ok (.iconst 0, 1) := by decide +kernel
theorem dX11_law_185 : decode cX11_law 185 = .ok (.invokestatic 112, 3) := by decide +kernel
theorem dX11_law_188 : decode cX11_law 188 = .ok (.iconst 3, 1) := by decide +kernel
theorem dX11_law_189 : decode cX11_law 189 = .ok (.ishr, 1) := by decide +kernel
theorem dX11_law_190 : decode cX11_law 190 = .ok (.bipush 9, 2) := by decide +kernel
theorem dX11_law_192 : decode cX11_law 192 = .ok (.invokestatic 98, 3) := by decide +kernel
theorem dX11_law_195 : decode cX11_law 195 = .ok (.iadd, 1) := by decide +kernel
theorem dX11_law_196 : decode cX11_law 196 = .ok (.istore_n 3, 1) := by decide +kernel
theorem dX11_law_197 : decode cX11_law 197 = .ok (.iconst 0, 1) := by decide +kernel
theorem dX11_law_198 : decode cX11_law 198 = .ok (.istore 4, 2) := by decide +kernel
theorem dX11_law_200 : decode cX11_law 200 = .ok (.iload 4, 2) := by decide +kernel
theorem dX11_law_202 : decode cX11_law 202 = .ok (.iload_n 3, 1) := by decide +kernel
theorem dX11_law_203 : decode cX11_law 203 = .ok (.if_icmp .ge 60, 3) := by decide +kernel
theorem dX11_law_206 : decode cX11_law 206 = .ok (.aload_n 0, 1) := by decide +kernel
theorem dX11_law_207 : decode cX11_law 207 = .ok (.bipush 9, 2) := by decide +kernel
theorem dX11_law_209 : decode cX11_law 209 = .ok (.iload 4, 2) := by decide +kernel
theorem dX11_law_211 : decode cX11_law 211 = .ok (.iadd, 1) := by decide +kernel
theorem dX11_law_212 : decode cX11_law 212 = .ok (.invokestatic 112, 3) := by decide +kernel
theorem dX11_law_215 : decode cX11_law 215 = .ok (.istore 5, 2) := by decide +kernel
theorem dX11_law_217 : decode cX11_law 217 = .ok (.aload_n 1, 1) := by decide +kernel
theorem dX11_law_218 : decode cX11_law 218 = .ok (.iload 5, 2) := by decide +kernel
theorem dX11_law_220 : decode cX11_law 220 = .ok (.iload_n 2, 1) := by decide +kernel
theorem dX11_law_221 : decode cX11_law 221 = .ok (.iconst 1, 1) := by decide +kernel
theorem dX11_law_222 : decode cX11_law 222 = .ok (.iadd, 1) := by decide +kernel
theorem dX11_law_223 : decode cX11_law 223 = .ok (.invokestatic 98, 3) := by decide +kernel
theorem dX11_law_226 : decode cX11_law 226 = .ok (.iconst 1, 1) := by decide +kernel
theorem dX11_law_227 : decode cX11_law 227 = .ok (.iload 5, 2) := by decide +kernel
theorem dX11_law_229 : decode cX11_law 229 = .ok (.iconst 4, 1) := by decide +kernel
theorem dX11_law_230 : decode cX11_law 230 = .ok (.ishr, 1) := by decide +kernel
theorem dX11_law_231 : decode cX11_law 231 = .ok (.iconst 5, 1) := by decide +kernel
theorem dX11_law_232 : decode cX11_law 232 = .ok (.invokestatic 98, 3) := by decide +kernel
theorem dX11_law_235 : decode cX11_law 235 = .ok (.iadd, 1) := by decide +kernel
theorem dX11_law_236 : decode cX11_law 236 = .ok (.iload 5, 2) := by decide +kernel
theorem dX11_law_238 : decode cX11_law 238 = .ok (.bipush 7, 2) := by decide +kernel
theorem dX11_law_240 : decode cX11_law 240 = .ok (.ishr, 1) := by decide +kernel
theorem dX11_law_241 : decode cX11_law 241 = .ok (.sipush 501, 3) := by decide +kernel
theorem dX11_law_244 : decode cX11_law 244 = .ok (.invokestatic 98, 3) := by decide +kernel
theorem dX11_law_247 : decode cX11_law 247 = .ok (.invokevirtual 49, 3) := by decide +kernel
theorem dX11_law_250 : decode cX11_law 250 = .ok (.iload 4, 2) := by decide +kernel
theorem dX11_law_252 : decode cX11_law 252 = .ok (.if_icmp .eq 5, 3) := by decide +kernel
theorem dX11_law_255 : decode cX11_law 255 = .ok (.iconst 0, 1) := by decide +kernel
theorem dX11_law_256 : decode cX11_law 256 = .ok (.ireturn, 1) := by decide +kernel
theorem dX11_law_257 : decode cX11_law 257 = .ok (.iinc 4 1, 3) := by decide +kernel
theorem dX11_law_260 : decode cX11_law 260 = .ok (.goto (-60), 3) := by decide +kernel
theorem dX11_law_263 : decode cX11_law 263 = .ok (.iconst 1, 1) := by decide +kernel
theorem dX11_law_264 : decode cX11_law 264 = .ok (.aload_n 0, 1) := by decide +kernel
theorem dX11_law_265 : decode cX11_law 265 = .ok (.iconst 0, 1) := by decide +kernel
theorem dX11_law_266 : decode cX11_law 266 = .ok (.invokestatic 112, 3) := by decide +kernel
theorem dX11_law_269 : decode cX11_law 269 = .ok (.bipush 8, 2) := by decide +kernel
theorem dX11_law_271 : decode cX11_law 271 = .ok (.ishr, 1) := by decide +kernel
theorem dX11_law_272 : decode cX11_law 272 = .ok (.iconst 3, 1) := by decide +kernel
theorem dX11_law_273 : decode cX11_law 273 = .ok (.invokestatic 98, 3) := by decide +kernel
theorem dX11_law_276 : decode cX11_law 276 = .ok (.iadd, 1) := by decide +kernel
theorem dX11_law_277 : decode cX11_law 277 = .ok (.istore 4, 2) := by decide +kernel
theorem dX11_law_279 : decode cX11_law 279 = .ok (.iconst 0, 1) := by decide +kernel
theorem dX11_law_280 : decode cX11_law 280 = .ok (.istore 5, 2) := by decide +kernel
theorem dX11_law_282 : decode cX11_law 282 = .ok (.iload 5, 2) := by decide +kernel
theorem dX11_law_284 : decode cX11_law 284 = .ok (.iload 4, 2) := by decide +kernel
theorem dX11_law_286 : decode cX11_law 286 = .ok (.if_icmp .ge 63, 3) := by decide +kernel
theorem dX11_law_289 : decode cX11_law 289 = .ok (.aload_n 0, 1) := by decide +kernel
theorem dX11_law_290 : decode cX11_law 290 = .ok (.bipush 18, 2) := by decide +kernel
theorem dX11_law_292 : decode cX11_law 292 = .ok (.iload 5, 2) := by decide +kernel
theorem dX11_law_294 : decode cX11_law 294 = .ok (.iadd, 1) := by decide +kernel
theorem dX11_law_295 : decode cX11_law 295 = .ok (.invokestatic 112, 3) := by decide +kernel
theorem dX11_law_298 : decode cX11_law 298 = .ok (.istore 6, 2) := by decide +kernel
theorem dX11_law_300 : decode cX11_law 300 = .ok (.aload_n 1, 1) := by decide +kernel
theorem dX11_law_301 : decode cX11_law 301 = .ok (.iload 6, 2) := by decide +kernel
theorem dX11_law_303 : decode cX11_law 303 = .ok (.iconst 1, 1) := by decide +kernel
theorem dX11_law_304 : decode cX11_law 304 = .ok (.iand, 1) := by decide +kernel
theorem dX11_law_305 : decode cX11_law 305 = .ok (.bipush 10, 2) := by decide +kernel
theorem dX11_law_307 : decode cX11_law 307 = .ok (.iload 6, 2) := by decide +kernel
theorem dX11_law_309 : decode cX11_law 309 = .ok (.iconst 1, 1) := by decide +kernel
theorem dX11_law_310 : decode cX11_law 310 = .ok (.ishr, 1) := by decide +kernel
theorem dX11_law_311 : decode cX11_law 311 = .ok (.iload 6, 2) := by decide +kernel
theorem dX11_law_313 : decode cX11_law 313 = .ok (.bipush 8, 2) := by decide +kernel
theorem dX11_law_315 : decode cX11_law 315 = .ok (.ishr, 1) := by decide +kernel
theorem dX11_law_316 : decode cX11_law 316 = .ok (.iconst 1, 1) := by decide +kernel
theorem dX11_law_317 : decode cX11_law 317 = .ok (.iand, 1) := by decide +kernel
theorem dX11_law_318 : decode cX11_law 318 = .ok (.ifCond .ne 8, 3) := by decide +kernel
theorem dX11_law_321 : decode cX11_law 321 = .ok (.bipush 30, 2) := by decide +kernel
theorem dX11_law_323 : decode cX11_law 323 = .ok (.goto 6, 3) := by decide +kernel
theorem dX11_law_326 : decode cX11_law 326 = .ok (.sipush 491, 3) := by decide +kernel
theorem dX11_law_329 : decode cX11_law 329 = .ok (.invokestatic 98, 3) := by decide +kernel
theorem dX11_law_332 : decode cX11_law 332 = .ok (.iadd, 1) := by decide +kernel
theorem dX11_law_333 : decode cX11_law 333 = .ok (.invokevirtual 59, 3) := by decide +kernel
theorem dX11_law_336 : decode cX11_law 336 = .ok (.iload 5, 2) := by decide +kernel
theorem dX11_law_338 : decode cX11_law 338 = .ok (.if_icmp .eq 5, 3) := by decide +kernel
theorem dX11_law_341 : decode cX11_law 341 = .ok (.iconst 0, 1) := by decide +kernel
theorem dX11_law_342 : decode cX11_law 342 = .ok (.ireturn, 1) := by decide +kernel
theorem dX11_law_343 : decode cX11_law 343 = .ok (.iinc 5 1, 3) := by decide +kernel
theorem dX11_law_346 : decode cX11_law 346 = .ok (.goto (-64), 3) := by decide +kernel
theorem dX11_law_349 : decode cX11_law 349 = .ok (.iconst 0, 1) := by decide +kernel
theorem dX11_law_350 : decode cX11_law 350 = .ok (.istore 5, 2) := by decide +kernel
theorem dX11_law_352 : decode cX11_law 352 = .ok (.iload 5, 2) := by decide +kernel
theorem dX11_law_354 : decode cX11_law 354 = .ok (.iload_n 3, 1) := by decide +kernel
theorem dX11_law_355 : decode cX11_law 355 = .ok (.if_icmp .ge 61, 3) := by decide +kernel
theorem dX11_law_358 : decode cX11_law 358 = .ok (.aload_n 0, 1) := by decide +kernel
theorem dX11_law_359 : decode cX11_law 359 = .ok (.bipush 21, 2) := by decide +kernel
theorem dX11_law_361 : decode cX11_law 361 = .ok (.invokestatic 112, 3) := by decide +kernel
theorem dX11_law_364 : decode cX11_law 364 = .ok (.iconst 2, 1) := by decide +kernel
theorem dX11_law_365 : decode cX11_law 365 = .ok (.iload 5, 2) := by decide +kernel
theorem dX11_law_367 : decode cX11_law 367 = .ok (.imul, 1) := by decide +kernel
theorem dX11_law_368 : decode cX11_law 368 = .ok (.ishr, 1) := by decide +kernel
theorem dX11_law_369 : decode cX11_law 369 = .ok (.iload 4, 2) := by decide +kernel
theorem dX11_law_371 : decode cX11_law 371 = .ok (.invokestatic 98, 3) := by decide +kernel
theorem dX11_law_374 : decode cX11_law 374 = .ok (.istore 6, 2) := by decide +kernel
theorem dX11_law_376 : decode cX11_law 376 = .ok (.aload_n 1, 1) := by decide +kernel
theorem dX11_law_377 : decode cX11_law 377 = .ok (.iload 5, 2) := by decide +kernel
theorem dX11_law_379 : decode cX11_law 379 = .ok (.iload 6, 2) := by decide +kernel
theorem dX11_law_381 : decode cX11_law 381 = .ok (.invokevirtual 62, 3) := by decide +kernel
theorem dX11_law_384 : decode cX11_law 384 = .ok (.istore 7, 2) := by decide +kernel
theorem dX11_law_386 : decode cX11_law 386 = .ok (.iload 7, 2) := by decide +kernel
theorem dX11_law_388 : decode cX11_law 388 = .ok (.ifCond .ge 22, 3) := by decide +kernel
theorem dX11_law_391 : decode cX11_law 391 = .ok (.iload 7, 2) := by decide +kernel
theorem dX11_law_393 : decode cX11_law 393 = .ok (.bipush (-2), 2) := by decide +kernel
theorem dX11_law_395 : decode cX11_law 395 = .ok (.if_icmp .ne 13, 3) := by decide +kernel
theorem dX11_law_398 : decode cX11_law 398 = .ok (.aload_n 1, 1) := by decide +kernel
theorem dX11_law_399 : decode cX11_law 399 = .ok (.iload 6, 2) := by decide +kernel
theorem dX11_law_401 : decode cX11_law 401 = .ok (.iconst 0, 1) := by decide +kernel
theorem dX11_law_402 : decode cX11_law 402 = .ok (.invokevirtual 33, 3) := by decide +kernel
theorem dX11_law_405 : decode cX11_law 405 = .ok (.ifCond .ne 5, 3) := by decide +kernel
theorem dX11_law_408 : decode cX11_law 408 = .ok (.iconst 0, 1) := by decide +kernel
theorem dX11_law_409 : decode cX11_law 409 = .ok (.ireturn, 1) := by decide +kernel
theorem dX11_law_410 : decode cX11_law 410 = .ok (.iinc 5 1, 3) := by decide +kernel
theorem dX11_law_413 : decode cX11_law 413 = .ok (.goto (-61), 3) := by decide +kernel
theorem dX11_law_416 : decode cX11_law 416 = .ok (.iconst 0, 1) := by decide +kernel
theorem dX11_law_417 : decode cX11_law 417 = .ok (.istore 5, 2) := by decide +kernel
theorem dX11_law_419 : decode cX11_law 419 = .ok (.iconst 0, 1) := by decide +kernel
theorem dX11_law_420 : decode cX11_law 420 = .ok (.istore 6, 2) := by decide +kernel
theorem dX11_law_422 : decode cX11_law 422 = .ok (.iload 6, 2) := by decide +kernel
theorem dX11_law_424 : decode cX11_law 424 = .ok (.bipush 18, 2) := by decide +kernel
theorem dX11_law_426 : decode cX11_law 426 = .ok (.if_icmp .ge 160, 3) := by decide +kernel
theorem dX11_law_429 : decode cX11_law 429 = .ok (.aload_n 0, 1) := by decide +kernel
theorem dX11_law_430 : decode cX11_law 430 = .ok (.bipush 22, 2) := by decide +kernel
theorem dX11_law_432 : decode cX11_law 432 = .ok (.iload 6, 2) := by decide +kernel
theorem dX11_law_434 : decode cX11_law 434 = .ok (.iadd, 1) := by decide +kernel
theorem dX11_law_435 : decode cX11_law 435 = .ok (.invokestatic 112, 3) := by decide +kernel
theorem dX11_law_438 : decode cX11_law 438 = .ok (.istore 7, 2) := by decide +kernel
theorem dX11_law_440 : decode cX11_law 440 = .ok (.aload_n 1, 1) := by decide +kernel
theorem dX11_law_441 : decode cX11_law 441 = .ok (.bipush 9, 2) := by decide +kernel
theorem dX11_law_443 : decode cX11_law 443 = .ok (.invokevirtual 11, 3) := by decide +kernel
theorem dX11_law_446 : decode cX11_law 446 = .ok (.istore 8, 2) := by decide +kernel
theorem dX11_law_448 : decode cX11_law 448 = .ok (.aload_n 1, 1) := by decide +kernel
theorem dX11_law_449 : decode cX11_law 449 = .ok (.invokestatic 39, 3) := by decide +kernel
theorem dX11_law_452 : decode cX11_law 452 = .ok (.lstore 9, 2) := by decide +kernel
theorem dX11_law_454 : decode cX11_law 454 = .ok (.aload_n 1, 1) := by decide +kernel
theorem dX11_law_455 : decode cX11_law 455 = .ok (.iload 7, 2) := by decide +kernel
theorem dX11_law_457 : decode cX11_law 457 = .ok (.invokestatic 116, 3) := by decide +kernel
theorem dX11_law_460 : decode cX11_law 460 = .ok (.istore 11, 2) := by decide +kernel
theorem dX11_law_462 : decode cX11_law 462 = .ok (.iload 11, 2) := by decide +kernel
theorem dX11_law_464 : decode cX11_law 464 = .ok (.bipush (-9), 2) := by decide +kernel
theorem dX11_law_466 : decode cX11_law 466 = .ok (.if_icmp .ne 21, 3) := by decide +kernel
theorem dX11_law_469 : decode cX11_law 469 = .ok (.iload 5, 2) := by decide +kernel
theorem dX11_law_471 : decode cX11_law 471 = .ok (.aload_n 1, 1) := by decide +kernel
theorem dX11_law_472 : decode cX11_law 472 = .ok (.invokestatic 120, 3) := by decide +kernel
theorem dX11_law_475 : decode cX11_law 475 = .ok (.iadd, 1) := by decide +kernel
theorem dX11_law_476 : decode cX11_law 476 = .ok (.istore 5, 2) := by decide +kernel
theorem dX11_law_478 : decode cX11_law 478 = .ok (.aload_n 1, 1) := by decide +kernel
theorem dX11_law_479 : decode cX11_law 479 = .ok (.invokestatic 124, 3) := by decide +kernel
theorem dX11_law_482 : decode cX11_law 482 = .ok (.ifCond .ne 98, 3) := by decide +kernel
theorem dX11_law_485 : decode cX11_law 485 = .ok (.iconst 0, 1) := by decide +kernel
theorem dX11_law_486 : decode cX11_law 486 = .ok (.ireturn, 1) := by decide +kernel
theorem dX11_law_487 : decode cX11_law 487 = .ok (.iload 11, 2) := by decide +kernel
theorem dX11_law_489 : decode cX11_law 489 = .ok (.ifCond .ge 27, 3) := by decide +kernel
theorem dX11_law_492 : decode cX11_law 492 = .ok (.aload_n 1, 1) := by decide +kernel
theorem dX11_law_493 : decode cX11_law 493 = .ok (.invokestatic 39, 3) := by decide +kernel
theorem dX11_law_496 : decode cX11_law 496 = .ok (.lload 9, 2) := by decide +kernel
theorem dX11_law_498 : decode cX11_law 498 = .ok (.lcmp, 1) := by decide +kernel
theorem dX11_law_499 : decode cX11_law 499 = .ok (.ifCond .ne 79, 3) := by decide +kernel
theorem dX11_law_502 : decode cX11_law 502 = .ok (.aload_n 1, 1) := by decide +kernel
theorem dX11_law_503 : decode cX11_law 503 = .ok (.bipush 9, 2) := by decide +kernel
theorem dX11_law_505 : decode cX11_law 505 = .ok (.invokevirtual 11, 3) := by decide +kernel
theorem dX11_law_508 : decode cX11_law 508 = .ok (.iload 8, 2) := by decide +kernel
theorem dX11_law_510 : decode cX11_law 510 = .ok (.if_icmp .eq 70, 3) := by decide +kernel
theorem dX11_law_513 : decode cX11_law 513 = .ok (.goto 65, 3) := by decide +kernel
theorem dX11_law_516 : decode cX11_law 516 = .ok (.aload_n 1, 1) := by decide +kernel
theorem dX11_law_517 : decode cX11_law 517 = .ok (.bipush 9, 2) := by decide +kernel
theorem dX11_law_519 : decode cX11_law 519 = .ok (.invokevirtual 11, 3) := by decide +kernel
theorem dX11_law_522 : decode cX11_law 522 = .ok (.iload 8, 2) := by decide +kernel
theorem dX11_law_524 : decode cX11_law 524 = .ok (.iconst 4, 1) := by decide +kernel
theorem dX11_law_525 : decode cX11_law 525 = .ok (.if_icmp .ge 10, 3) := by decide +kernel
theorem dX11_law_528 : decode cX11_law 528 = .ok (.iload 8, 2) := by decide +kernel
theorem dX11_law_530 : decode cX11_law 530 = .ok (.iconst 1, 1) := by decide +kernel
theorem dX11_law_531 : decode cX11_law 531 = .ok (.iadd, 1) := by decide +kernel
theorem dX11_law_532 : decode cX11_law 532 = .ok (.goto 4, 3) := by decide +kernel
theorem dX11_law_535 : decode cX11_law 535 = .ok (.iconst 4, 1) := by decide +kernel
theorem dX11_law_536 : decode cX11_law 536 = .ok (.if_icmp .ne 42, 3) := by decide +kernel
theorem dX11_law_539 : decode cX11_law 539 = .ok (.iload 7, 2) := by decide +kernel
theorem dX11_law_541 : decode cX11_law 541 = .ok (.bipush 22, 2) := by decide +kernel
theorem dX11_law_543 : decode cX11_law 543 = .ok (.ishr, 1) := by decide +kernel
theorem dX11_law_544 : decode cX11_law 544 = .ok (.iconst 3, 1) := by decide +kernel
theorem dX11_law_545 : decode cX11_law 545 = .ok (.iand, 1) := by decide +kernel
theorem dX11_law_546 : decode cX11_law 546 = .ok (.ifCond .ne 34, 3) := by decide +kernel
theorem dX11_law_549 : decode cX11_law 549 = .ok (.aload_n 1, 1) := by decide +kernel
theorem dX11_law_550 : decode cX11_law 550 = .ok (.invokevirtual 101, 3) := by decide +kernel
theorem dX11_law_553 : decode cX11_law 553 = .ok (.iload 8, 2) := by decide +kernel
theorem dX11_law_555 : decode cX11_law 555 = .ok (.iconst 4, 1) := by decide +kernel
theorem dX11_law_556 : decode cX11_law 556 = .ok (.if_icmp .ge 8, 3) := by decide +kernel
theorem dX11_law_559 : decode cX11_law 559 = .ok (.iload 8, 2) := by decide +kernel
theorem dX11_law_561 : decode cX11_law 561 = .ok (.goto 4, 3) := by decide +kernel
theorem dX11_law_564 : decode cX11_law 564 = .ok (.iconst 3, 1) := by decide +kernel
theorem dX11_law_565 : decode cX11_law 565 = .ok (.if_icmp .ne 13, 3) := by decide +kernel
theorem dX11_law_568 : decode cX11_law 568 = .ok (.aload_n 1, 1) := by decide +kernel
theorem dX11_law_569 : decode cX11_law 569 = .ok (.invokestatic 39, 3) := by decide +kernel
theorem dX11_law_572 : decode cX11_law 572 = .ok (.lload 9, 2) := by decide +kernel
theorem dX11_law_574 : decode cX11_law 574 = .ok (.lcmp, 1) := by decide +kernel
theorem dX11_law_575 : decode cX11_law 575 = .ok (.ifCond .eq 5, 3) := by decide +kernel
theorem dX11_law_578 : decode cX11_law 578 = .ok (.iconst 0, 1) := by decide +kernel
theorem dX11_law_579 : decode cX11_law 579 = .ok (.ireturn, 1) := by decide +kernel
theorem dX11_law_580 : decode cX11_law 580 = .ok (.iinc 6 1, 3) := by decide +kernel
theorem dX11_law_583 : decode cX11_law 583 = .ok (.goto (-161), 3) := by decide +kernel
theorem dX11_law_586 : decode cX11_law 586 = .ok (.aload_n 1, 1) := by decide +kernel
theorem dX11_law_587 : decode cX11_law 587 = .ok (.invokestatic 127, 3) := by decide +kernel
theorem dX11_law_590 : decode cX11_law 590 = .ok (.ifCond .eq 43, 3) := by decide +kernel
theorem dX11_law_593 : decode cX11_law 593 = .ok (.aload_n 1, 1) := by decide +kernel
theorem dX11_law_594 : decode cX11_law 594 = .ok (.iload 5, 2) := by decide +kernel
theorem dX11_law_596 : decode cX11_law 596 = .ok (.invokestatic 130, 3) := by decide +kernel
theorem dX11_law_599 : decode cX11_law 599 = .ok (.ifCond .eq 34, 3) := by decide +kernel
theorem dX11_law_602 : decode cX11_law 602 = .ok (.aload_n 1, 1) := by decide +kernel
theorem dX11_law_603 : decode cX11_law 603 = .ok (.invokestatic 134, 3) := by decide +kernel
theorem dX11_law_606 : decode cX11_law 606 = .ok (.ifCond .eq 27, 3) := by decide +kernel
theorem dX11_law_609 : decode cX11_law 609 = .ok (.aload_n 1, 1) := by decide +kernel
theorem dX11_law_610 : decode cX11_law 610 = .ok (.aload_n 0, 1) := by decide +kernel
theorem dX11_law_611 : decode cX11_law 611 = .ok (.bipush 40, 2) := by decide +kernel
theorem dX11_law_613 : decode cX11_law 613 = .ok (.invokestatic 112, 3) := by decide +kernel
theorem dX11_law_616 : decode cX11_law 616 = .ok (.invokestatic 137, 3) := by decide +kernel
theorem dX11_law_619 : decode cX11_law 619 = .ok (.ifCond .eq 14, 3) := by decide +kernel
theorem dX11_law_622 : decode cX11_law 622 = .ok (.aload_n 1, 1) := by decide +kernel
theorem dX11_law_623 : decode cX11_law 623 = .ok (.invokestatic 108, 3) := by decide +kernel
theorem dX11_law_626 : decode cX11_law 626 = .ok (.ifCond .eq 7, 3) := by decide +kernel
theorem dX11_law_629 : decode cX11_law 629 = .ok (.iconst 1, 1) := by decide +kernel
theorem dX11_law_630 : decode cX11_law 630 = .ok (.goto 4, 3) := by decide +kernel
theorem dX11_law_633 : decode cX11_law 633 = .ok (.iconst 0, 1) := by decide +kernel
theorem dX11_law_634 : decode cX11_law 634 = .ok (.ireturn, 1) := by decide +kernel
