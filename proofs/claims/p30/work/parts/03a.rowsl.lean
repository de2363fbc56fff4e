theorem dX11_cell_0 : decode cX11_cell 0 = .ok (.iload_n 1, 1) := by decide +kernel
theorem dX11_cell_1 : decode cX11_cell 1 = .ok (.aload_n 0, 1) := by decide +kernel
theorem dX11_cell_2 : decode cX11_cell 2 = .ok (.arraylength, 1) := by decide +kernel
theorem dX11_cell_3 : decode cX11_cell 3 = .ok (.if_icmp .ge 9, 3) := by decide +kernel
theorem dX11_cell_6 : decode cX11_cell 6 = .ok (.aload_n 0, 1) := by decide +kernel
theorem dX11_cell_7 : decode cX11_cell 7 = .ok (.iload_n 1, 1) := by decide +kernel
theorem dX11_cell_8 : decode cX11_cell 8 = .ok (.iaload, 1) := by decide +kernel
theorem dX11_cell_9 : decode cX11_cell 9 = .ok (.goto 9, 3) := by decide +kernel
theorem dX11_cell_12 : decode cX11_cell 12 = .ok (.ldc 7, 2) := by decide +kernel
theorem dX11_cell_14 : decode cX11_cell 14 = .ok (.iload_n 1, 1) := by decide +kernel
theorem dX11_cell_15 : decode cX11_cell 15 = .ok (.iconst 3, 1) := by decide +kernel
theorem dX11_cell_16 : decode cX11_cell 16 = .ok (.iadd, 1) := by decide +kernel
theorem dX11_cell_17 : decode cX11_cell 17 = .ok (.imul, 1) := by decide +kernel
theorem dX11_cell_18 : decode cX11_cell 18 = .ok (.ireturn, 1) := by decide +kernel
theorem dX11_up_0 : decode cX11_up 0 = .ok (.iload_n 0, 1) := by decide +kernel
theorem dX11_up_1 : decode cX11_up 1 = .ok (.ldc 8, 2) := by decide +kernel
theorem dX11_up_3 : decode cX11_up 3 = .ok (.iand, 1) := by decide +kernel
theorem dX11_up_4 : decode cX11_up 4 = .ok (.iload_n 1, 1) := by decide +kernel
theorem dX11_up_5 : decode cX11_up 5 = .ok (.irem, 1) := by decide +kernel
theorem dX11_up_6 : decode cX11_up 6 = .ok (.ireturn, 1) := by decide +kernel
theorem dX11_mark_0 : decode cX11_mark 0 = .ok (.ldc2_w 9, 3) := by decide +kernel
theorem dX11_mark_3 : decode cX11_mark 3 = .ok (.aload_n 0, 1) := by decide +kernel
theorem dX11_mark_4 : decode cX11_mark 4 = .ok (.bipush 20, 2) := by decide +kernel
theorem dX11_mark_6 : decode cX11_mark 6 = .ok (.invokevirtual 11, 3) := by decide +kernel
theorem dX11_mark_9 : decode cX11_mark 9 = .ok (.i2l, 1) := by decide +kernel
theorem dX11_mark_10 : decode cX11_mark 10 = .ok (.lmul, 1) := by decide +kernel
theorem dX11_mark_11 : decode cX11_mark 11 = .ok (.aload_n 0, 1) := by decide +kernel
theorem dX11_mark_12 : decode cX11_mark 12 = .ok (.bipush 21, 2) := by decide +kernel
theorem dX11_mark_14 : decode cX11_mark 14 = .ok (.invokevirtual 11, 3) := by decide +kernel
theorem dX11_mark_17 : decode cX11_mark 17 = .ok (.i2l, 1) := by decide +kernel
theorem dX11_mark_18 : decode cX11_mark 18 = .ok (.ladd, 1) := by decide +kernel
theorem dX11_mark_19 : decode cX11_mark 19 = .ok (.lstore_n 1, 1) := by decide +kernel
theorem dX11_mark_20 : decode cX11_mark 20 = .ok (.iconst 0, 1) := by decide +kernel
theorem dX11_mark_21 : decode cX11_mark 21 = .ok (.istore_n 3, 1) := by decide +kernel
theorem dX11_mark_22 : decode cX11_mark 22 = .ok (.iload_n 3, 1) := by decide +kernel
theorem dX11_mark_23 : decode cX11_mark 23 = .ok (.bipush 9, 2) := by decide +kernel
theorem dX11_mark_25 : decode cX11_mark 25 = .ok (.if_icmp .ge 22, 3) := by decide +kernel
theorem dX11_mark_28 : decode cX11_mark 28 = .ok (.ldc2_w 9, 3) := by decide +kernel
theorem dX11_mark_31 : decode cX11_mark 31 = .ok (.lload_n 1, 1) := by decide +kernel
theorem dX11_mark_32 : decode cX11_mark 32 = .ok (.lmul, 1) := by decide +kernel
theorem dX11_mark_33 : decode cX11_mark 33 = .ok (.aload_n 0, 1) := by decide +kernel
theorem dX11_mark_34 : decode cX11_mark 34 = .ok (.iload_n 3, 1) := by decide +kernel
theorem dX11_mark_35 : decode cX11_mark 35 = .ok (.invokevirtual 11, 3) := by decide +kernel
theorem dX11_mark_38 : decode cX11_mark 38 = .ok (.i2l, 1) := by decide +kernel
theorem dX11_mark_39 : decode cX11_mark 39 = .ok (.ladd, 1) := by decide +kernel
theorem dX11_mark_40 : decode cX11_mark 40 = .ok (.lstore_n 1, 1) := by decide +kernel
theorem dX11_mark_41 : decode cX11_mark 41 = .ok (.iinc 3 1, 3) := by decide +kernel
theorem dX11_mark_44 : decode cX11_mark 44 = .ok (.goto (-22), 3) := by decide +kernel
theorem dX11_mark_47 : decode cX11_mark 47 = .ok (.iconst 0, 1) := by decide +kernel
theorem dX11_mark_48 : decode cX11_mark 48 = .ok (.istore_n 3, 1) := by decide +kernel
theorem dX11_mark_49 : decode cX11_mark 49 = .ok (.iload_n 3, 1) := by decide +kernel
theorem dX11_mark_50 : decode cX11_mark 50 = .ok (.bipush 6, 2) := by decide +kernel
theorem dX11_mark_52 : decode cX11_mark 52 = .ok (.if_icmp .ge 22, 3) := by decide +kernel
theorem dX11_mark_55 : decode cX11_mark 55 = .ok (.ldc2_w 9, 3) := by decide +kernel
theorem dX11_mark_58 : decode cX11_mark 58 = .ok (.lload_n 1, 1) := by decide +kernel
theorem dX11_mark_59 : decode cX11_mark 59 = .ok (.lmul, 1) := by decide +kernel
theorem dX11_mark_60 : decode cX11_mark 60 = .ok (.aload_n 0, 1) := by decide +kernel
theorem dX11_mark_61 : decode cX11_mark 61 = .ok (.iload_n 3, 1) := by decide +kernel
theorem dX11_mark_62 : decode cX11_mark 62 = .ok (.invokevirtual 17, 3) := by decide +kernel
theorem dX11_mark_65 : decode cX11_mark 65 = .ok (.i2l, 1) := by decide +kernel
theorem dX11_mark_66 : decode cX11_mark 66 = .ok (.ladd, 1) := by decide +kernel
theorem dX11_mark_67 : decode cX11_mark 67 = .ok (.lstore_n 1, 1) := by decide +kernel
theorem dX11_mark_68 : decode cX11_mark 68 = .ok (.iinc 3 1, 3) := by decide +kernel
theorem dX11_mark_71 : decode cX11_mark 71 = .ok (.goto (-22), 3) := by decide +kernel
theorem dX11_mark_74 : decode cX11_mark 74 = .ok (.iconst 0, 1) := by decide +kernel
theorem dX11_mark_75 : decode cX11_mark 75 = .ok (.istore_n 3, 1) := by decide +kernel
theorem dX11_mark_76 : decode cX11_mark 76 = .ok (.iload_n 3, 1) := by decide +kernel
theorem dX11_mark_77 : decode cX11_mark 77 = .ok (.aload_n 0, 1) := by decide +kernel
theorem dX11_mark_78 : decode cX11_mark 78 = .ok (.iconst 0, 1) := by decide +kernel
theorem dX11_mark_79 : decode cX11_mark 79 = .ok (.invokevirtual 11, 3) := by decide +kernel
theorem dX11_mark_82 : decode cX11_mark 82 = .ok (.if_icmp .ge 40, 3) := by decide +kernel
theorem dX11_mark_85 : decode cX11_mark 85 = .ok (.iconst 0, 1) := by decide +kernel
theorem dX11_mark_86 : decode cX11_mark 86 = .ok (.istore 4, 2) := by decide +kernel
theorem dX11_mark_88 : decode cX11_mark 88 = .ok (.iload 4, 2) := by decide +kernel
theorem dX11_mark_90 : decode cX11_mark 90 = .ok (.bipush 7, 2) := by decide +kernel
theorem dX11_mark_92 : decode cX11_mark 92 = .ok (.if_icmp .ge 24, 3) := by decide +kernel
theorem dX11_mark_95 : decode cX11_mark 95 = .ok (.ldc2_w 9, 3) := by decide +kernel
theorem dX11_mark_98 : decode cX11_mark 98 = .ok (.lload_n 1, 1) := by decide +kernel
theorem dX11_mark_99 : decode cX11_mark 99 = .ok (.lmul, 1) := by decide +kernel
theorem dX11_mark_100 : decode cX11_mark 100 = .ok (.aload_n 0, 1) := by decide +kernel
theorem dX11_mark_101 : decode cX11_mark 101 = .ok (.iload_n 3, 1) := by decide +kernel
theorem dX11_mark_102 : decode cX11_mark 102 = .ok (.iload 4, 2) := by decide +kernel
theorem dX11_mark_104 : decode cX11_mark 104 = .ok (.invokevirtual 20, 3) := by decide +kernel
theorem dX11_mark_107 : decode cX11_mark 107 = .ok (.i2l, 1) := by decide +kernel
theorem dX11_mark_108 : decode cX11_mark 108 = .ok (.ladd, 1) := by decide +kernel
theorem dX11_mark_109 : decode cX11_mark 109 = .ok (.lstore_n 1, 1) := by decide +kernel
theorem dX11_mark_110 : decode cX11_mark 110 = .ok (.iinc 4 1, 3) := by decide +kernel
theorem dX11_mark_113 : decode cX11_mark 113 = .ok (.goto (-25), 3) := by decide +kernel
theorem dX11_mark_116 : decode cX11_mark 116 = .ok (.iinc 3 1, 3) := by decide +kernel
theorem dX11_mark_119 : decode cX11_mark 119 = .ok (.goto (-43), 3) := by decide +kernel
theorem dX11_mark_122 : decode cX11_mark 122 = .ok (.iconst 0, 1) := by decide +kernel
theorem dX11_mark_123 : decode cX11_mark 123 = .ok (.istore_n 3, 1) := by decide +kernel
theorem dX11_mark_124 : decode cX11_mark 124 = .ok (.iload_n 3, 1) := by decide +kernel
theorem dX11_mark_125 : decode cX11_mark 125 = .ok (.aload_n 0, 1) := by decide +kernel
theorem dX11_mark_126 : decode cX11_mark 126 = .ok (.iconst 1, 1) := by decide +kernel
theorem dX11_mark_127 : decode cX11_mark 127 = .ok (.invokevirtual 11, 3) := by decide +kernel
theorem dX11_mark_130 : decode cX11_mark 130 = .ok (.if_icmp .ge 64, 3) := by decide +kernel
theorem dX11_mark_133 : decode cX11_mark 133 = .ok (.iconst 0, 1) := by decide +kernel
theorem dX11_mark_134 : decode cX11_mark 134 = .ok (.istore 4, 2) := by decide +kernel
theorem dX11_mark_136 : decode cX11_mark 136 = .ok (.iload 4, 2) := by decide +kernel
theorem dX11_mark_138 : decode cX11_mark 138 = .ok (.bipush 12, 2) := by decide +kernel
theorem dX11_mark_140 : decode cX11_mark 140 = .ok (.if_icmp .ge 24, 3) := by decide +kernel
theorem dX11_mark_143 : decode cX11_mark 143 = .ok (.ldc2_w 9, 3) := by decide +kernel
theorem dX11_mark_146 : decode cX11_mark 146 = .ok (.lload_n 1, 1) := by decide +kernel
theorem dX11_mark_147 : decode cX11_mark 147 = .ok (.lmul, 1) := by decide +kernel
theorem dX11_mark_148 : decode cX11_mark 148 = .ok (.aload_n 0, 1) := by decide +kernel
theorem dX11_mark_149 : decode cX11_mark 149 = .ok (.iload_n 3, 1) := by decide +kernel
theorem dX11_mark_150 : decode cX11_mark 150 = .ok (.iload 4, 2) := by decide +kernel
theorem dX11_mark_152 : decode cX11_mark 152 = .ok (.invokevirtual 24, 3) := by decide +kernel
theorem dX11_mark_155 : decode cX11_mark 155 = .ok (.i2l, 1) := by decide +kernel
theorem dX11_mark_156 : decode cX11_mark 156 = .ok (.ladd, 1) := by decide +kernel
theorem dX11_mark_157 : decode cX11_mark 157 = .ok (.lstore_n 1, 1) := by decide +kernel
theorem dX11_mark_158 : decode cX11_mark 158 = .ok (.iinc 4 1, 3) := by decide +kernel
theorem dX11_mark_161 : decode cX11_mark 161 = .ok (.goto (-25), 3) := by decide +kernel
theorem dX11_mark_164 : decode cX11_mark 164 = .ok (.ldc2_w 9, 3) := by decide +kernel
theorem dX11_mark_167 : decode cX11_mark 167 = .ok (.ldc2_w 9, 3) := by decide +kernel
theorem dX11_mark_170 : decode cX11_mark 170 = .ok (.lload_n 1, 1) := by decide +kernel
theorem dX11_mark_171 : decode cX11_mark 171 = .ok (.lmul, 1) := by decide +kernel
theorem dX11_mark_172 : decode cX11_mark 172 = .ok (.aload_n 0, 1) := by decide +kernel
theorem dX11_mark_173 : decode cX11_mark 173 = .ok (.iload_n 3, 1) := by decide +kernel
theorem dX11_mark_174 : decode cX11_mark 174 = .ok (.invokevirtual 27, 3) := by decide +kernel
theorem dX11_mark_177 : decode cX11_mark 177 = .ok (.i2l, 1) := by decide +kernel
theorem dX11_mark_178 : decode cX11_mark 178 = .ok (.ladd, 1) := by decide +kernel
theorem dX11_mark_179 : decode cX11_mark 179 = .ok (.lmul, 1) := by decide +kernel
theorem dX11_mark_180 : decode cX11_mark 180 = .ok (.aload_n 0, 1) := by decide +kernel
theorem dX11_mark_181 : decode cX11_mark 181 = .ok (.iload_n 3, 1) := by decide +kernel
theorem dX11_mark_182 : decode cX11_mark 182 = .ok (.invokevirtual 30, 3) := by decide +kernel
theorem dX11_mark_185 : decode cX11_mark 185 = .ok (.i2l, 1) := by decide +kernel
theorem dX11_mark_186 : decode cX11_mark 186 = .ok (.ladd, 1) := by decide +kernel
theorem dX11_mark_187 : decode cX11_mark 187 = .ok (.lstore_n 1, 1) := by decide +kernel
theorem dX11_mark_188 : decode cX11_mark 188 = .ok (.iinc 3 1, 3) := by decide +kernel
theorem dX11_mark_191 : decode cX11_mark 191 = .ok (.goto (-67), 3) := by decide +kernel
theorem dX11_mark_194 : decode cX11_mark 194 = .ok (.iconst 0, 1) := by decide +kernel
theorem dX11_mark_195 : decode cX11_mark 195 = .ok (.istore_n 3, 1) := by decide +kernel
theorem dX11_mark_196 : decode cX11_mark 196 = .ok (.iload_n 3, 1) := by decide +kernel
theorem dX11_mark_197 : decode cX11_mark 197 = .ok (.aload_n 0, 1) := by decide +kernel
theorem dX11_mark_198 : decode cX11_mark 198 = .ok (.iconst 2, 1) := by decide +kernel
theorem dX11_mark_199 : decode cX11_mark 199 = .ok (.invokevirtual 11, 3) := by decide +kernel
theorem dX11_mark_202 : decode cX11_mark 202 = .ok (.if_icmp .ge 40, 3) := by decide +kernel
theorem dX11_mark_205 : decode cX11_mark 205 = .ok (.iconst 0, 1) := by decide +kernel
theorem dX11_mark_206 : decode cX11_mark 206 = .ok (.istore 4, 2) := by decide +kernel
theorem dX11_mark_208 : decode cX11_mark 208 = .ok (.iload 4, 2) := by decide +kernel
theorem dX11_mark_210 : decode cX11_mark 210 = .ok (.bipush 8, 2) := by decide +kernel
theorem dX11_mark_212 : decode cX11_mark 212 = .ok (.if_icmp .ge 24, 3) := by decide +kernel
theorem dX11_mark_215 : decode cX11_mark 215 = .ok (.ldc2_w 9, 3) := by decide +kernel
theorem dX11_mark_218 : decode cX11_mark 218 = .ok (.lload_n 1, 1) := by decide +kernel
theorem dX11_mark_219 : decode cX11_mark 219 = .ok (.lmul, 1) := by decide +kernel
theorem dX11_mark_220 : decode cX11_mark 220 = .ok (.aload_n 0, 1) := by decide +kernel
theorem dX11_mark_221 : decode cX11_mark 221 = .ok (.iload_n 3, 1) := by decide +kernel
theorem dX11_mark_222 : decode cX11_mark 222 = .ok (.iload 4, 2) := by decide +kernel
theorem dX11_mark_224 : decode cX11_mark 224 = .ok (.invokevirtual 33, 3) := by decide +kernel
theorem dX11_mark_227 : decode cX11_mark 227 = .ok (.i2l, 1) := by decide +kernel
theorem dX11_mark_228 : decode cX11_mark 228 = .ok (.ladd, 1) := by decide +kernel
theorem dX11_mark_229 : decode cX11_mark 229 = .ok (.lstore_n 1, 1) := by decide +kernel
theorem dX11_mark_230 : decode cX11_mark 230 = .ok (.iinc 4 1, 3) := by decide +kernel
theorem dX11_mark_233 : decode cX11_mark 233 = .ok (.goto (-25), 3) := by decide +kernel
theorem dX11_mark_236 : decode cX11_mark 236 = .ok (.iinc 3 1, 3) := by decide +kernel
theorem dX11_mark_239 : decode cX11_mark 239 = .ok (.goto (-43), 3) := by decide +kernel
theorem dX11_mark_242 : decode cX11_mark 242 = .ok (.iconst 0, 1) := by decide +kernel
theorem dX11_mark_243 : decode cX11_mark 243 = .ok (.istore_n 3, 1) := by decide +kernel
theorem dX11_mark_244 : decode cX11_mark 244 = .ok (.iload_n 3, 1) := by decide +kernel
theorem dX11_mark_245 : decode cX11_mark 245 = .ok (.aload_n 0, 1) := by decide +kernel
theorem dX11_mark_246 : decode cX11_mark 246 = .ok (.iconst 3, 1) := by decide +kernel
theorem dX11_mark_247 : decode cX11_mark 247 = .ok (.invokevirtual 11, 3) := by decide +kernel
theorem dX11_mark_250 : decode cX11_mark 250 = .ok (.if_icmp .ge 47, 3) := by decide +kernel
theorem dX11_mark_253 : decode cX11_mark 253 = .ok (.ldc2_w 9, 3) := by decide +kernel
theorem dX11_mark_256 : decode cX11_mark 256 = .ok (.ldc2_w 9, 3) := by decide +kernel
theorem dX11_mark_259 : decode cX11_mark 259 = .ok (.ldc2_w 9, 3) := by decide +kernel
theorem dX11_mark_262 : decode cX11_mark 262 = .ok (.lload_n 1, 1) := by decide +kernel
theorem dX11_mark_263 : decode cX11_mark 263 = .ok (.lmul, 1) := by decide +kernel
theorem dX11_mark_264 : decode cX11_mark 264 = .ok (.aload_n 0, 1) := by decide +kernel
theorem dX11_mark_265 : decode cX11_mark 265 = .ok (.iload_n 3, 1) := by decide +kernel
theorem dX11_mark_266 : decode cX11_mark 266 = .ok (.iconst 0, 1) := by decide +kernel
theorem dX11_mark_267 : decode cX11_mark 267 = .ok (.invokevirtual 36, 3) := by decide +kernel
theorem dX11_mark_270 : decode cX11_mark 270 = .ok (.i2l, 1) := by decide +kernel
theorem dX11_mark_271 : decode cX11_mark 271 = .ok (.ladd, 1) := by decide +kernel
theorem dX11_mark_272 : decode cX11_mark 272 = .ok (.lmul, 1) := by decide +kernel
theorem dX11_mark_273 : decode cX11_mark 273 = .ok (.aload_n 0, 1) := by decide +kernel
theorem dX11_mark_274 : decode cX11_mark 274 = .ok (.iload_n 3, 1) := by decide +kernel
theorem dX11_mark_275 : decode cX11_mark 275 = .ok (.iconst 1, 1) := by decide +kernel
theorem dX11_mark_276 : decode cX11_mark 276 = .ok (.invokevirtual 36, 3) := by decide +kernel
theorem dX11_mark_279 : decode cX11_mark 279 = .ok (.i2l, 1) := by decide +kernel
theorem dX11_mark_280 : decode cX11_mark 280 = .ok (.ladd, 1) := by decide +kernel
theorem dX11_mark_281 : decode cX11_mark 281 = .ok (.lmul, 1) := by decide +kernel
theorem dX11_mark_282 : decode cX11_mark 282 = .ok (.aload_n 0, 1) := by decide +kernel
theorem dX11_mark_283 : decode cX11_mark 283 = .ok (.iload_n 3, 1) := by decide +kernel
theorem dX11_mark_284 : decode cX11_mark 284 = .ok (.iconst 2, 1) := by decide +kernel
theorem dX11_mark_285 : decode cX11_mark 285 = .ok (.invokevirtual 36, 3) := by decide +kernel
theorem dX11_mark_288 : decode cX11_mark 288 = .ok (.i2l, 1) := by decide +kernel
theorem dX11_mark_289 : decode cX11_mark 289 = .ok (.ladd, 1) := by decide +kernel
theorem dX11_mark_290 : decode cX11_mark 290 = .ok (.lstore_n 1, 1) := by decide +kernel
theorem dX11_mark_291 : decode cX11_mark 291 = .ok (.iinc 3 1, 3) := by decide +kernel
theorem dX11_mark_294 : decode cX11_mark 294 = .ok (.goto (-50), 3) := by decide +kernel
theorem dX11_mark_297 : decode cX11_mark 297 = .ok (.lload_n 1, 1) := by decide +kernel
theorem dX11_mark_298 : decode cX11_mark 298 = .ok (.lreturn, 1) := by decide +kernel
theorem dX11_fails_0 : decode cX11_fails 0 = .ok (.aload_n 0, 1) := by decide +kernel
theorem dX11_fails_1 : decode cX11_fails 1 = .ok (.invokestatic 39, 3) := by decide +kernel
theorem dX11_fails_4 : decode cX11_fails 4 = .ok (.lstore_n 1, 1) := by decide +kernel
theorem dX11_fails_5 : decode cX11_fails 5 = .ok (.aload_n 0, 1) := by decide +kernel
theorem dX11_fails_6 : decode cX11_fails 6 = .ok (.bipush 9, 2) := by decide +kernel
theorem dX11_fails_8 : decode cX11_fails 8 = .ok (.invokevirtual 11, 3) := by decide +kernel
theorem dX11_fails_11 : decode cX11_fails 11 = .ok (.istore_n 3, 1) := by decide +kernel
theorem dX11_fails_12 : decode cX11_fails 12 = .ok (.aload_n 0, 1) := by decide +kernel
theorem dX11_fails_13 : decode cX11_fails 13 = .ok (.iconst 0, 1) := by decide +kernel
theorem dX11_fails_14 : decode cX11_fails 14 = .ok (.invokevirtual 11, 3) := by decide +kernel
theorem dX11_fails_17 : decode cX11_fails 17 = .ok (.istore 4, 2) := by decide +kernel
theorem dX11_fails_19 : decode cX11_fails 19 = .ok (.aload_n 0, 1) := by decide +kernel
theorem dX11_fails_20 : decode cX11_fails 20 = .ok (.iconst 1, 1) := by decide +kernel
theorem dX11_fails_21 : decode cX11_fails 21 = .ok (.invokevirtual 11, 3) := by decide +kernel
theorem dX11_fails_24 : decode cX11_fails 24 = .ok (.istore 5, 2) := by decide +kernel
theorem dX11_fails_26 : decode cX11_fails 26 = .ok (.aload_n 0, 1) := by decide +kernel
theorem dX11_fails_27 : decode cX11_fails 27 = .ok (.iconst 2, 1) := by decide +kernel
theorem dX11_fails_28 : decode cX11_fails 28 = .ok (.invokevirtual 11, 3) := by decide +kernel
theorem dX11_fails_31 : decode cX11_fails 31 = .ok (.istore 6, 2) := by decide +kernel
theorem dX11_fails_33 : decode cX11_fails 33 = .ok (.aload_n 0, 1) := by decide +kernel
theorem dX11_fails_34 : decode cX11_fails 34 = .ok (.iconst 4, 1) := by decide +kernel
theorem dX11_fails_35 : decode cX11_fails 35 = .ok (.invokevirtual 11, 3) := by decide +kernel
theorem dX11_fails_38 : decode cX11_fails 38 = .ok (.istore 7, 2) := by decide +kernel
theorem dX11_fails_40 : decode cX11_fails 40 = .ok (.aload_n 0, 1) := by decide +kernel
theorem dX11_fails_41 : decode cX11_fails 41 = .ok (.iload 4, 2) := by decide +kernel
theorem dX11_fails_43 : decode cX11_fails 43 = .ok (.iconst 5, 1) := by decide +kernel
theorem dX11_fails_44 : decode cX11_fails 44 = .ok (.iconst 5, 1) := by decide +kernel
theorem dX11_fails_45 : decode cX11_fails 45 = .ok (.iconst 0, 1) := by decide +kernel
theorem dX11_fails_46 : decode cX11_fails 46 = .ok (.invokevirtual 45, 3) := by decide +kernel
theorem dX11_fails_49 : decode cX11_fails 49 = .ok (.iconst (-1), 1) := by decide +kernel
theorem dX11_fails_50 : decode cX11_fails 50 = .ok (.if_icmp .ne 210, 3) := by decide +kernel
theorem dX11_fails_53 : decode cX11_fails 53 = .ok (.aload_n 0, 1) := by decide +kernel
theorem dX11_fails_54 : decode cX11_fails 54 = .ok (.iconst 0, 1) := by decide +kernel
theorem dX11_fails_55 : decode cX11_fails 55 = .ok (.iconst 0, 1) := by decide +kernel
theorem dX11_fails_56 : decode cX11_fails 56 = .ok (.iconst 5, 1) := by decide +kernel
theorem dX11_fails_57 : decode cX11_fails 57 = .ok (.iconst 0, 1) := by decide +kernel
theorem dX11_fails_58 : decode cX11_fails 58 = .ok (.invokevirtual 45, 3) := by decide +kernel
theorem dX11_fails_61 : decode cX11_fails 61 = .ok (.iconst (-1), 1) := by decide +kernel
theorem dX11_fails_62 : decode cX11_fails 62 = .ok (.if_icmp .ne 198, 3) := by decide +kernel
theorem dX11_fails_65 : decode cX11_fails 65 = .ok (.aload_n 0, 1) := by decide +kernel
theorem dX11_fails_66 : decode cX11_fails 66 = .ok (.iconst 0, 1) := by decide +kernel
theorem dX11_fails_67 : decode cX11_fails 67 = .ok (.bipush 51, 2) := by decide +kernel
theorem dX11_fails_69 : decode cX11_fails 69 = .ok (.iconst 5, 1) := by decide +kernel
theorem dX11_fails_70 : decode cX11_fails 70 = .ok (.iconst 0, 1) := by decide +kernel
theorem dX11_fails_71 : decode cX11_fails 71 = .ok (.invokevirtual 45, 3) := by decide +kernel
theorem dX11_fails_74 : decode cX11_fails 74 = .ok (.iconst (-1), 1) := by decide +kernel
theorem dX11_fails_75 : decode cX11_fails 75 = .ok (.if_icmp .ne 185, 3) := by decide +kernel
theorem dX11_fails_78 : decode cX11_fails 78 = .ok (.aload_n 0, 1) := by decide +kernel
theorem dX11_fails_79 : decode cX11_fails 79 = .ok (.iconst 0, 1) := by decide +kernel
theorem dX11_fails_80 : decode cX11_fails 80 = .ok (.iconst 5, 1) := by decide +kernel
theorem dX11_fails_81 : decode cX11_fails 81 = .ok (.bipush 101, 2) := by decide +kernel
theorem dX11_fails_83 : decode cX11_fails 83 = .ok (.iconst 0, 1) := by decide +kernel
theorem dX11_fails_84 : decode cX11_fails 84 = .ok (.invokevirtual 45, 3) := by decide +kernel
theorem dX11_fails_87 : decode cX11_fails 87 = .ok (.iconst (-1), 1) := by decide +kernel
theorem dX11_fails_88 : decode cX11_fails 88 = .ok (.if_icmp .ne 172, 3) := by decide +kernel
theorem dX11_fails_91 : decode cX11_fails 91 = .ok (.aload_n 0, 1) := by decide +kernel
theorem dX11_fails_92 : decode cX11_fails 92 = .ok (.iconst 0, 1) := by decide +kernel
theorem dX11_fails_93 : decode cX11_fails 93 = .ok (.iconst 5, 1) := by decide +kernel
theorem dX11_fails_94 : decode cX11_fails 94 = .ok (.iconst 5, 1) := by decide +kernel
theorem dX11_fails_95 : decode cX11_fails 95 = .ok (.iconst 2, 1) := by decide +kernel
theorem dX11_fails_96 : decode cX11_fails 96 = .ok (.invokevirtual 45, 3) := by decide +kernel
theorem dX11_fails_99 : decode cX11_fails 99 = .ok (.iconst (-1), 1) := by decide +kernel
theorem dX11_fails_100 : decode cX11_fails 100 = .ok (.if_icmp .ne 160, 3) := by decide +kernel
theorem dX11_fails_103 : decode cX11_fails 103 = .ok (.aload_n 0, 1) := by decide +kernel
theorem dX11_fails_104 : decode cX11_fails 104 = .ok (.iload 4, 2) := by decide +kernel
theorem dX11_fails_106 : decode cX11_fails 106 = .ok (.iconst 1, 1) := by decide +kernel
theorem dX11_fails_107 : decode cX11_fails 107 = .ok (.iconst 0, 1) := by decide +kernel
theorem dX11_fails_108 : decode cX11_fails 108 = .ok (.invokevirtual 49, 3) := by decide +kernel
theorem dX11_fails_111 : decode cX11_fails 111 = .ok (.iconst (-1), 1) := by decide +kernel
theorem dX11_fails_112 : decode cX11_fails 112 = .ok (.if_icmp .ne 148, 3) := by decide +kernel
theorem dX11_fails_115 : decode cX11_fails 115 = .ok (.aload_n 0, 1) := by decide +kernel
theorem dX11_fails_116 : decode cX11_fails 116 = .ok (.iconst 0, 1) := by decide +kernel
theorem dX11_fails_117 : decode cX11_fails 117 = .ok (.iconst 0, 1) := by decide +kernel
theorem dX11_fails_118 : decode cX11_fails 118 = .ok (.iconst 0, 1) := by decide +kernel
theorem dX11_fails_119 : decode cX11_fails 119 = .ok (.invokevirtual 49, 3) := by decide +kernel
theorem dX11_fails_122 : decode cX11_fails 122 = .ok (.iconst (-1), 1) := by decide +kernel
theorem dX11_fails_123 : decode cX11_fails 123 = .ok (.if_icmp .ne 137, 3) := by decide +kernel
theorem dX11_fails_126 : decode cX11_fails 126 = .ok (.aload_n 0, 1) := by decide +kernel
theorem dX11_fails_127 : decode cX11_fails 127 = .ok (.iconst 0, 1) := by decide +kernel
theorem dX11_fails_128 : decode cX11_fails 128 = .ok (.bipush 6, 2) := by decide +kernel
theorem dX11_fails_130 : decode cX11_fails 130 = .ok (.iconst 0, 1) := by decide +kernel
theorem dX11_fails_131 : decode cX11_fails 131 = .ok (.invokevirtual 49, 3) := by decide +kernel
theorem dX11_fails_134 : decode cX11_fails 134 = .ok (.iconst (-1), 1) := by decide +kernel
theorem dX11_fails_135 : decode cX11_fails 135 = .ok (.if_icmp .ne 125, 3) := by decide +kernel
theorem dX11_fails_138 : decode cX11_fails 138 = .ok (.aload_n 0, 1) := by decide +kernel
theorem dX11_fails_139 : decode cX11_fails 139 = .ok (.iconst 0, 1) := by decide +kernel
theorem dX11_fails_140 : decode cX11_fails 140 = .ok (.iconst 1, 1) := by decide +kernel
theorem dX11_fails_141 : decode cX11_fails 141 = .ok (.sipush 501, 3) := by decide +kernel
theorem dX11_fails_144 : decode cX11_fails 144 = .ok (.invokevirtual 49, 3) := by decide +kernel
theorem dX11_fails_147 : decode cX11_fails 147 = .ok (.iconst (-1), 1) := by decide +kernel
theorem dX11_fails_148 : decode cX11_fails 148 = .ok (.if_icmp .ne 112, 3) := by decide +kernel
theorem dX11_fails_151 : decode cX11_fails 151 = .ok (.aload_n 0, 1) := by decide +kernel
theorem dX11_fails_152 : decode cX11_fails 152 = .ok (.iload 5, 2) := by decide +kernel
theorem dX11_fails_154 : decode cX11_fails 154 = .ok (.iconst 2, 1) := by decide +kernel
theorem dX11_fails_155 : decode cX11_fails 155 = .ok (.iconst 0, 1) := by decide +kernel
theorem dX11_fails_156 : decode cX11_fails 156 = .ok (.invokevirtual 53, 3) := by decide +kernel
theorem dX11_fails_159 : decode cX11_fails 159 = .ok (.iconst (-1), 1) := by decide +kernel
theorem dX11_fails_160 : decode cX11_fails 160 = .ok (.if_icmp .ne 100, 3) := by decide +kernel
theorem dX11_fails_163 : decode cX11_fails 163 = .ok (.aload_n 0, 1) := by decide +kernel
theorem dX11_fails_164 : decode cX11_fails 164 = .ok (.iconst 0, 1) := by decide +kernel
theorem dX11_fails_165 : decode cX11_fails 165 = .ok (.iconst 1, 1) := by decide +kernel
theorem dX11_fails_166 : decode cX11_fails 166 = .ok (.iconst 0, 1) := by decide +kernel
theorem dX11_fails_167 : decode cX11_fails 167 = .ok (.invokevirtual 53, 3) := by decide +kernel
theorem dX11_fails_170 : decode cX11_fails 170 = .ok (.iconst (-1), 1) := by decide +kernel
theorem dX11_fails_171 : decode cX11_fails 171 = .ok (.if_icmp .ne 89, 3) := by decide +kernel
theorem dX11_fails_174 : decode cX11_fails 174 = .ok (.aload_n 0, 1) := by decide +kernel
theorem dX11_fails_175 : decode cX11_fails 175 = .ok (.iconst 0, 1) := by decide +kernel
theorem dX11_fails_176 : decode cX11_fails 176 = .ok (.bipush 10, 2) := by decide +kernel
theorem dX11_fails_178 : decode cX11_fails 178 = .ok (.iconst 0, 1) := by decide +kernel
theorem dX11_fails_179 : decode cX11_fails 179 = .ok (.invokevirtual 53, 3) := by decide +kernel
theorem dX11_fails_182 : decode cX11_fails 182 = .ok (.iconst (-1), 1) := by decide +kernel
theorem dX11_fails_183 : decode cX11_fails 183 = .ok (.if_icmp .ne 77, 3) := by decide +kernel
theorem dX11_fails_186 : decode cX11_fails 186 = .ok (.aload_n 0, 1) := by decide +kernel
theorem dX11_fails_187 : decode cX11_fails 187 = .ok (.iconst 0, 1) := by decide +kernel
theorem dX11_fails_188 : decode cX11_fails 188 = .ok (.iconst 2, 1) := by decide +kernel
theorem dX11_fails_189 : decode cX11_fails 189 = .ok (.bipush 9, 2) := by decide +kernel
theorem dX11_fails_191 : decode cX11_fails 191 = .ok (.invokevirtual 53, 3) := by decide +kernel
theorem dX11_fails_194 : decode cX11_fails 194 = .ok (.iconst (-1), 1) := by decide +kernel
theorem dX11_fails_195 : decode cX11_fails 195 = .ok (.if_icmp .ne 65, 3) := by decide +kernel
theorem dX11_fails_198 : decode cX11_fails 198 = .ok (.aload_n 0, 1) := by decide +kernel
theorem dX11_fails_199 : decode cX11_fails 199 = .ok (.iload 5, 2) := by decide +kernel
theorem dX11_fails_201 : decode cX11_fails 201 = .ok (.iload 7, 2) := by decide +kernel
theorem dX11_fails_203 : decode cX11_fails 203 = .ok (.iload 7, 2) := by decide +kernel
theorem dX11_fails_205 : decode cX11_fails 205 = .ok (.invokevirtual 56, 3) := by decide +kernel
theorem dX11_fails_208 : decode cX11_fails 208 = .ok (.iconst (-1), 1) := by decide +kernel
theorem dX11_fails_209 : decode cX11_fails 209 = .ok (.if_icmp .ne 51, 3) := by decide +kernel
theorem dX11_fails_212 : decode cX11_fails 212 = .ok (.aload_n 0, 1) := by decide +kernel
theorem dX11_fails_213 : decode cX11_fails 213 = .ok (.iconst 0, 1) := by decide +kernel
theorem dX11_fails_214 : decode cX11_fails 214 = .ok (.iload 7, 2) := by decide +kernel
theorem dX11_fails_216 : decode cX11_fails 216 = .ok (.iconst 1, 1) := by decide +kernel
theorem dX11_fails_217 : decode cX11_fails 217 = .ok (.isub, 1) := by decide +kernel
theorem dX11_fails_218 : decode cX11_fails 218 = .ok (.iload 7, 2) := by decide +kernel
theorem dX11_fails_220 : decode cX11_fails 220 = .ok (.invokevirtual 56, 3) := by decide +kernel
theorem dX11_fails_223 : decode cX11_fails 223 = .ok (.iconst (-1), 1) := by decide +kernel
theorem dX11_fails_224 : decode cX11_fails 224 = .ok (.if_icmp .ne 36, 3) := by decide +kernel
theorem dX11_fails_227 : decode cX11_fails 227 = .ok (.aload_n 0, 1) := by decide +kernel
theorem dX11_fails_228 : decode cX11_fails 228 = .ok (.iconst 0, 1) := by decide +kernel
theorem dX11_fails_229 : decode cX11_fails 229 = .ok (.iload 7, 2) := by decide +kernel
theorem dX11_fails_231 : decode cX11_fails 231 = .ok (.iconst 1, 1) := by decide +kernel
theorem dX11_fails_232 : decode cX11_fails 232 = .ok (.iadd, 1) := by decide +kernel
theorem dX11_fails_233 : decode cX11_fails 233 = .ok (.iload 7, 2) := by decide +kernel
theorem dX11_fails_235 : decode cX11_fails 235 = .ok (.invokevirtual 56, 3) := by decide +kernel
theorem dX11_fails_238 : decode cX11_fails 238 = .ok (.iconst (-1), 1) := by decide +kernel
theorem dX11_fails_239 : decode cX11_fails 239 = .ok (.if_icmp .ne 21, 3) := by decide +kernel
theorem dX11_fails_242 : decode cX11_fails 242 = .ok (.aload_n 0, 1) := by decide +kernel
theorem dX11_fails_243 : decode cX11_fails 243 = .ok (.iconst 0, 1) := by decide +kernel
theorem dX11_fails_244 : decode cX11_fails 244 = .ok (.iload 7, 2) := by decide +kernel
theorem dX11_fails_246 : decode cX11_fails 246 = .ok (.sipush 1000, 3) := by decide +kernel
theorem dX11_fails_249 : decode cX11_fails 249 = .ok (.invokevirtual 56, 3) := by decide +kernel
theorem dX11_fails_252 : decode cX11_fails 252 = .ok (.iconst (-1), 1) := by decide +kernel
theorem dX11_fails_253 : decode cX11_fails 253 = .ok (.if_icmp .ne 7, 3) := by decide +kernel
theorem dX11_fails_256 : decode cX11_fails 256 = .ok (.iconst 1, 1) := by decide +kernel
theorem dX11_fails_257 : decode cX11_fails 257 = .ok (.goto 4, 3) := by decide +kernel
theorem dX11_fails_260 : decode cX11_fails 260 = .ok (.iconst 0, 1) := by decide +kernel
theorem dX11_fails_261 : decode cX11_fails 261 = .ok (.istore 8, 2) := by decide +kernel
theorem dX11_fails_263 : decode cX11_fails 263 = .ok (.iload 8, 2) := by decide +kernel
theorem dX11_fails_265 : decode cX11_fails 265 = .ok (.ifCond .eq 166, 3) := by decide +kernel
theorem dX11_fails_268 : decode cX11_fails 268 = .ok (.aload_n 0, 1) := by decide +kernel
theorem dX11_fails_269 : decode cX11_fails 269 = .ok (.iconst 2, 1) := by decide +kernel
theorem dX11_fails_270 : decode cX11_fails 270 = .ok (.bipush 50, 2) := by decide +kernel
theorem dX11_fails_272 : decode cX11_fails 272 = .ok (.invokevirtual 59, 3) := by decide +kernel
theorem dX11_fails_275 : decode cX11_fails 275 = .ok (.iconst (-1), 1) := by decide +kernel
theorem dX11_fails_276 : decode cX11_fails 276 = .ok (.if_icmp .ne 155, 3) := by decide +kernel
theorem dX11_fails_279 : decode cX11_fails 279 = .ok (.aload_n 0, 1) := by decide +kernel
theorem dX11_fails_280 : decode cX11_fails 280 = .ok (.iconst 0, 1) := by decide +kernel
theorem dX11_fails_281 : decode cX11_fails 281 = .ok (.bipush 9, 2) := by decide +kernel
theorem dX11_fails_283 : decode cX11_fails 283 = .ok (.invokevirtual 59, 3) := by decide +kernel
theorem dX11_fails_286 : decode cX11_fails 286 = .ok (.iconst (-1), 1) := by decide +kernel
theorem dX11_fails_287 : decode cX11_fails 287 = .ok (.if_icmp .ne 144, 3) := by decide +kernel
theorem dX11_fails_290 : decode cX11_fails 290 = .ok (.aload_n 0, 1) := by decide +kernel
theorem dX11_fails_291 : decode cX11_fails 291 = .ok (.iconst 0, 1) := by decide +kernel
theorem dX11_fails_292 : decode cX11_fails 292 = .ok (.sipush 501, 3) := by decide +kernel
theorem dX11_fails_295 : decode cX11_fails 295 = .ok (.invokevirtual 59, 3) := by decide +kernel
theorem dX11_fails_298 : decode cX11_fails 298 = .ok (.iconst (-1), 1) := by decide +kernel
theorem dX11_fails_299 : decode cX11_fails 299 = .ok (.if_icmp .ne 132, 3) := by decide +kernel
theorem dX11_fails_302 : decode cX11_fails 302 = .ok (.aload_n 0, 1) := by decide +kernel
theorem dX11_fails_303 : decode cX11_fails 303 = .ok (.iload 5, 2) := by decide +kernel
theorem dX11_fails_305 : decode cX11_fails 305 = .ok (.iconst 0, 1) := by decide +kernel
theorem dX11_fails_306 : decode cX11_fails 306 = .ok (.invokevirtual 62, 3) := by decide +kernel
theorem dX11_fails_309 : decode cX11_fails 309 = .ok (.iconst (-1), 1) := by decide +kernel
theorem dX11_fails_310 : decode cX11_fails 310 = .ok (.if_icmp .ne 121, 3) := by decide +kernel
theorem dX11_fails_313 : decode cX11_fails 313 = .ok (.aload_n 0, 1) := by decide +kernel
theorem dX11_fails_314 : decode cX11_fails 314 = .ok (.iconst 0, 1) := by decide +kernel
theorem dX11_fails_315 : decode cX11_fails 315 = .ok (.iload 6, 2) := by decide +kernel
theorem dX11_fails_317 : decode cX11_fails 317 = .ok (.invokevirtual 62, 3) := by decide +kernel
theorem dX11_fails_320 : decode cX11_fails 320 = .ok (.iconst (-1), 1) := by decide +kernel
theorem dX11_fails_321 : decode cX11_fails 321 = .ok (.if_icmp .ne 110, 3) := by decide +kernel
theorem dX11_fails_324 : decode cX11_fails 324 = .ok (.aload_n 0, 1) := by decide +kernel
theorem dX11_fails_325 : decode cX11_fails 325 = .ok (.iload 5, 2) := by decide +kernel
theorem dX11_fails_327 : decode cX11_fails 327 = .ok (.invokevirtual 65, 3) := by decide +kernel
theorem dX11_fails_330 : decode cX11_fails 330 = .ok (.iconst (-1), 1) := by decide +kernel
theorem dX11_fails_331 : decode cX11_fails 331 = .ok (.if_icmp .ne 100, 3) := by decide +kernel
theorem dX11_fails_334 : decode cX11_fails 334 = .ok (.aload_n 0, 1) := by decide +kernel
theorem dX11_fails_335 : decode cX11_fails 335 = .ok (.iload 6, 2) := by decide +kernel
theorem dX11_fails_337 : decode cX11_fails 337 = .ok (.iconst 1, 1) := by decide +kernel
theorem dX11_fails_338 : decode cX11_fails 338 = .ok (.invokevirtual 68, 3) := by decide +kernel
theorem dX11_fails_341 : decode cX11_fails 341 = .ok (.iconst (-1), 1) := by decide +kernel
theorem dX11_fails_342 : decode cX11_fails 342 = .ok (.if_icmp .ne 89, 3) := by decide +kernel
theorem dX11_fails_345 : decode cX11_fails 345 = .ok (.aload_n 0, 1) := by decide +kernel
theorem dX11_fails_346 : decode cX11_fails 346 = .ok (.iconst 0, 1) := by decide +kernel
theorem dX11_fails_347 : decode cX11_fails 347 = .ok (.iconst 0, 1) := by decide +kernel
theorem dX11_fails_348 : decode cX11_fails 348 = .ok (.invokevirtual 68, 3) := by decide +kernel
theorem dX11_fails_351 : decode cX11_fails 351 = .ok (.iconst (-1), 1) := by decide +kernel
theorem dX11_fails_352 : decode cX11_fails 352 = .ok (.if_icmp .ne 79, 3) := by decide +kernel
theorem dX11_fails_355 : decode cX11_fails 355 = .ok (.aload_n 0, 1) := by decide +kernel
theorem dX11_fails_356 : decode cX11_fails 356 = .ok (.iconst 0, 1) := by decide +kernel
theorem dX11_fails_357 : decode cX11_fails 357 = .ok (.bipush 100, 2) := by decide +kernel
theorem dX11_fails_359 : decode cX11_fails 359 = .ok (.invokevirtual 68, 3) := by decide +kernel
theorem dX11_fails_362 : decode cX11_fails 362 = .ok (.iconst (-1), 1) := by decide +kernel
theorem dX11_fails_363 : decode cX11_fails 363 = .ok (.if_icmp .ne 68, 3) := by decide +kernel
theorem dX11_fails_366 : decode cX11_fails 366 = .ok (.aload_n 0, 1) := by decide +kernel
theorem dX11_fails_367 : decode cX11_fails 367 = .ok (.iconst 2, 1) := by decide +kernel
theorem dX11_fails_368 : decode cX11_fails 368 = .ok (.iconst 1, 1) := by decide +kernel
theorem dX11_fails_369 : decode cX11_fails 369 = .ok (.invokevirtual 71, 3) := by decide +kernel
theorem dX11_fails_372 : decode cX11_fails 372 = .ok (.iconst (-1), 1) := by decide +kernel
theorem dX11_fails_373 : decode cX11_fails 373 = .ok (.if_icmp .ne 58, 3) := by decide +kernel
theorem dX11_fails_376 : decode cX11_fails 376 = .ok (.aload_n 0, 1) := by decide +kernel
theorem dX11_fails_377 : decode cX11_fails 377 = .ok (.iconst 0, 1) := by decide +kernel
theorem dX11_fails_378 : decode cX11_fails 378 = .ok (.bipush 21, 2) := by decide +kernel
theorem dX11_fails_380 : decode cX11_fails 380 = .ok (.invokevirtual 71, 3) := by decide +kernel
theorem dX11_fails_383 : decode cX11_fails 383 = .ok (.iconst (-1), 1) := by decide +kernel
theorem dX11_fails_384 : decode cX11_fails 384 = .ok (.if_icmp .ne 47, 3) := by decide +kernel
theorem dX11_fails_387 : decode cX11_fails 387 = .ok (.aload_n 0, 1) := by decide +kernel
theorem dX11_fails_388 : decode cX11_fails 388 = .ok (.iconst 1, 1) := by decide +kernel
theorem dX11_fails_389 : decode cX11_fails 389 = .ok (.bipush 51, 2) := by decide +kernel
theorem dX11_fails_391 : decode cX11_fails 391 = .ok (.invokevirtual 71, 3) := by decide +kernel
theorem dX11_fails_394 : decode cX11_fails 394 = .ok (.iconst (-1), 1) := by decide +kernel
theorem dX11_fails_395 : decode cX11_fails 395 = .ok (.if_icmp .ne 36, 3) := by decide +kernel
theorem dX11_fails_398 : decode cX11_fails 398 = .ok (.aload_n 0, 1) := by decide +kernel
theorem dX11_fails_399 : decode cX11_fails 399 = .ok (.iconst 0, 1) := by decide +kernel
theorem dX11_fails_400 : decode cX11_fails 400 = .ok (.iconst 0, 1) := by decide +kernel
theorem dX11_fails_401 : decode cX11_fails 401 = .ok (.invokevirtual 71, 3) := by decide +kernel
theorem dX11_fails_404 : decode cX11_fails 404 = .ok (.iconst (-1), 1) := by decide +kernel
theorem dX11_fails_405 : decode cX11_fails 405 = .ok (.if_icmp .ne 26, 3) := by decide +kernel
theorem dX11_fails_408 : decode cX11_fails 408 = .ok (.aload_n 0, 1) := by decide +kernel
theorem dX11_fails_409 : decode cX11_fails 409 = .ok (.iconst 0, 1) := by decide +kernel
theorem dX11_fails_410 : decode cX11_fails 410 = .ok (.invokevirtual 74, 3) := by decide +kernel
theorem dX11_fails_413 : decode cX11_fails 413 = .ok (.iconst (-1), 1) := by decide +kernel
theorem dX11_fails_414 : decode cX11_fails 414 = .ok (.if_icmp .ne 17, 3) := by decide +kernel
theorem dX11_fails_417 : decode cX11_fails 417 = .ok (.aload_n 0, 1) := by decide +kernel
theorem dX11_fails_418 : decode cX11_fails 418 = .ok (.bipush 32, 2) := by decide +kernel
theorem dX11_fails_420 : decode cX11_fails 420 = .ok (.invokevirtual 74, 3) := by decide +kernel
theorem dX11_fails_423 : decode cX11_fails 423 = .ok (.iconst (-1), 1) := by decide +kernel
theorem dX11_fails_424 : decode cX11_fails 424 = .ok (.if_icmp .ne 7, 3) := by decide +kernel
theorem dX11_fails_427 : decode cX11_fails 427 = .ok (.iconst 1, 1) := by decide +kernel
theorem dX11_fails_428 : decode cX11_fails 428 = .ok (.goto 4, 3) := by decide +kernel
theorem dX11_fails_431 : decode cX11_fails 431 = .ok (.iconst 0, 1) := by decide +kernel
theorem dX11_fails_432 : decode cX11_fails 432 = .ok (.istore 8, 2) := by decide +kernel
theorem dX11_fails_434 : decode cX11_fails 434 = .ok (.iload 8, 2) := by decide +kernel
theorem dX11_fails_436 : decode cX11_fails 436 = .ok (.ifCond .eq 296, 3) := by decide +kernel
theorem dX11_fails_439 : decode cX11_fails 439 = .ok (.aload_n 0, 1) := by decide +kernel
theorem dX11_fails_440 : decode cX11_fails 440 = .ok (.iload 4, 2) := by decide +kernel
theorem dX11_fails_442 : decode cX11_fails 442 = .ok (.iconst 0, 1) := by decide +kernel
theorem dX11_fails_443 : decode cX11_fails 443 = .ok (.invokevirtual 20, 3) := by decide +kernel
theorem dX11_fails_446 : decode cX11_fails 446 = .ok (.iconst (-1), 1) := by decide +kernel
theorem dX11_fails_447 : decode cX11_fails 447 = .ok (.if_icmp .ne 285, 3) := by decide +kernel
theorem dX11_fails_450 : decode cX11_fails 450 = .ok (.aload_n 0, 1) := by decide +kernel
theorem dX11_fails_451 : decode cX11_fails 451 = .ok (.iconst 0, 1) := by decide +kernel
theorem dX11_fails_452 : decode cX11_fails 452 = .ok (.bipush 7, 2) := by decide +kernel
theorem dX11_fails_454 : decode cX11_fails 454 = .ok (.invokevirtual 20, 3) := by decide +kernel
theorem dX11_fails_457 : decode cX11_fails 457 = .ok (.iconst (-1), 1) := by decide +kernel
theorem dX11_fails_458 : decode cX11_fails 458 = .ok (.if_icmp .ne 274, 3) := by decide +kernel
theorem dX11_fails_461 : decode cX11_fails 461 = .ok (.aload_n 0, 1) := by decide +kernel
theorem dX11_fails_462 : decode cX11_fails 462 = .ok (.iconst 0, 1) := by decide +kernel
theorem dX11_fails_463 : decode cX11_fails 463 = .ok (.iconst 0, 1) := by decide +kernel
theorem dX11_fails_464 : decode cX11_fails 464 = .ok (.invokevirtual 20, 3) := by decide +kernel
theorem dX11_fails_467 : decode cX11_fails 467 = .ok (.bipush (-4), 2) := by decide +kernel
theorem dX11_fails_469 : decode cX11_fails 469 = .ok (.if_icmp .ne 263, 3) := by decide +kernel
theorem dX11_fails_472 : decode cX11_fails 472 = .ok (.aload_n 0, 1) := by decide +kernel
theorem dX11_fails_473 : decode cX11_fails 473 = .ok (.iconst 0, 1) := by decide +kernel
theorem dX11_fails_474 : decode cX11_fails 474 = .ok (.iconst 1, 1) := by decide +kernel
theorem dX11_fails_475 : decode cX11_fails 475 = .ok (.invokevirtual 20, 3) := by decide +kernel
theorem dX11_fails_478 : decode cX11_fails 478 = .ok (.bipush (-4), 2) := by decide +kernel
theorem dX11_fails_480 : decode cX11_fails 480 = .ok (.if_icmp .ne 252, 3) := by decide +kernel
theorem dX11_fails_483 : decode cX11_fails 483 = .ok (.aload_n 0, 1) := by decide +kernel
theorem dX11_fails_484 : decode cX11_fails 484 = .ok (.iconst 0, 1) := by decide +kernel
theorem dX11_fails_485 : decode cX11_fails 485 = .ok (.iconst 3, 1) := by decide +kernel
theorem dX11_fails_486 : decode cX11_fails 486 = .ok (.invokevirtual 20, 3) := by decide +kernel
theorem dX11_fails_489 : decode cX11_fails 489 = .ok (.bipush (-4), 2) := by decide +kernel
theorem dX11_fails_491 : decode cX11_fails 491 = .ok (.if_icmp .ne 241, 3) := by decide +kernel
theorem dX11_fails_494 : decode cX11_fails 494 = .ok (.aload_n 0, 1) := by decide +kernel
theorem dX11_fails_495 : decode cX11_fails 495 = .ok (.iload 5, 2) := by decide +kernel
theorem dX11_fails_497 : decode cX11_fails 497 = .ok (.iconst 0, 1) := by decide +kernel
theorem dX11_fails_498 : decode cX11_fails 498 = .ok (.invokevirtual 24, 3) := by decide +kernel
theorem dX11_fails_501 : decode cX11_fails 501 = .ok (.iconst (-1), 1) := by decide +kernel
theorem dX11_fails_502 : decode cX11_fails 502 = .ok (.if_icmp .ne 230, 3) := by decide +kernel
theorem dX11_fails_505 : decode cX11_fails 505 = .ok (.aload_n 0, 1) := by decide +kernel
theorem dX11_fails_506 : decode cX11_fails 506 = .ok (.iconst 0, 1) := by decide +kernel
theorem dX11_fails_507 : decode cX11_fails 507 = .ok (.bipush 12, 2) := by decide +kernel
theorem dX11_fails_509 : decode cX11_fails 509 = .ok (.invokevirtual 24, 3) := by decide +kernel
theorem dX11_fails_512 : decode cX11_fails 512 = .ok (.iconst (-1), 1) := by decide +kernel
theorem dX11_fails_513 : decode cX11_fails 513 = .ok (.if_icmp .ne 219, 3) := by decide +kernel
theorem dX11_fails_516 : decode cX11_fails 516 = .ok (.aload_n 0, 1) := by decide +kernel
theorem dX11_fails_517 : decode cX11_fails 517 = .ok (.iload 5, 2) := by decide +kernel
theorem dX11_fails_519 : decode cX11_fails 519 = .ok (.invokevirtual 27, 3) := by decide +kernel
theorem dX11_fails_522 : decode cX11_fails 522 = .ok (.iconst (-1), 1) := by decide +kernel
theorem dX11_fails_523 : decode cX11_fails 523 = .ok (.if_icmp .ne 209, 3) := by decide +kernel
theorem dX11_fails_526 : decode cX11_fails 526 = .ok (.aload_n 0, 1) := by decide +kernel
theorem dX11_fails_527 : decode cX11_fails 527 = .ok (.iload 6, 2) := by decide +kernel
theorem dX11_fails_529 : decode cX11_fails 529 = .ok (.iconst 0, 1) := by decide +kernel
theorem dX11_fails_530 : decode cX11_fails 530 = .ok (.invokevirtual 33, 3) := by decide +kernel
theorem dX11_fails_533 : decode cX11_fails 533 = .ok (.iconst (-1), 1) := by decide +kernel
theorem dX11_fails_534 : decode cX11_fails 534 = .ok (.if_icmp .ne 198, 3) := by decide +kernel
theorem dX11_fails_537 : decode cX11_fails 537 = .ok (.aload_n 0, 1) := by decide +kernel
theorem dX11_fails_538 : decode cX11_fails 538 = .ok (.iconst 0, 1) := by decide +kernel
theorem dX11_fails_539 : decode cX11_fails 539 = .ok (.bipush 8, 2) := by decide +kernel
theorem dX11_fails_541 : decode cX11_fails 541 = .ok (.invokevirtual 33, 3) := by decide +kernel
theorem dX11_fails_544 : decode cX11_fails 544 = .ok (.iconst (-1), 1) := by decide +kernel
theorem dX11_fails_545 : decode cX11_fails 545 = .ok (.if_icmp .ne 187, 3) := by decide +kernel
theorem dX11_fails_548 : decode cX11_fails 548 = .ok (.aload_n 0, 1) := by decide +kernel
theorem dX11_fails_549 : decode cX11_fails 549 = .ok (.aload_n 0, 1) := by decide +kernel
theorem dX11_fails_550 : decode cX11_fails 550 = .ok (.iconst 3, 1) := by decide +kernel
theorem dX11_fails_551 : decode cX11_fails 551 = .ok (.invokevirtual 11, 3) := by decide +kernel
theorem dX11_fails_554 : decode cX11_fails 554 = .ok (.iconst 0, 1) := by decide +kernel
theorem dX11_fails_555 : decode cX11_fails 555 = .ok (.invokevirtual 36, 3) := by decide +kernel
theorem dX11_fails_558 : decode cX11_fails 558 = .ok (.iconst (-1), 1) := by decide +kernel
theorem dX11_fails_559 : decode cX11_fails 559 = .ok (.if_icmp .ne 173, 3) := by decide +kernel
theorem dX11_fails_562 : decode cX11_fails 562 = .ok (.aload_n 0, 1) := by decide +kernel
theorem dX11_fails_563 : decode cX11_fails 563 = .ok (.iconst 0, 1) := by decide +kernel
theorem dX11_fails_564 : decode cX11_fails 564 = .ok (.iconst 3, 1) := by decide +kernel
theorem dX11_fails_565 : decode cX11_fails 565 = .ok (.invokevirtual 36, 3) := by decide +kernel
theorem dX11_fails_568 : decode cX11_fails 568 = .ok (.iconst (-1), 1) := by decide +kernel
theorem dX11_fails_569 : decode cX11_fails 569 = .ok (.if_icmp .ne 163, 3) := by decide +kernel
theorem dX11_fails_572 : decode cX11_fails 572 = .ok (.aload_n 0, 1) := by decide +kernel
theorem dX11_fails_573 : decode cX11_fails 573 = .ok (.iload 6, 2) := by decide +kernel
theorem dX11_fails_575 : decode cX11_fails 575 = .ok (.iconst 0, 1) := by decide +kernel
theorem dX11_fails_576 : decode cX11_fails 576 = .ok (.invokevirtual 77, 3) := by decide +kernel
theorem dX11_fails_579 : decode cX11_fails 579 = .ok (.iconst (-1), 1) := by decide +kernel
theorem dX11_fails_580 : decode cX11_fails 580 = .ok (.if_icmp .ne 152, 3) := by decide +kernel
theorem dX11_fails_583 : decode cX11_fails 583 = .ok (.aload_n 0, 1) := by decide +kernel
theorem dX11_fails_584 : decode cX11_fails 584 = .ok (.iconst 0, 1) := by decide +kernel
theorem dX11_fails_585 : decode cX11_fails 585 = .ok (.iconst (-1), 1) := by decide +kernel
theorem dX11_fails_586 : decode cX11_fails 586 = .ok (.invokevirtual 77, 3) := by decide +kernel
theorem dX11_fails_589 : decode cX11_fails 589 = .ok (.iconst (-1), 1) := by decide +kernel
theorem dX11_fails_590 : decode cX11_fails 590 = .ok (.if_icmp .ne 142, 3) := by decide +kernel
theorem dX11_fails_593 : decode cX11_fails 593 = .ok (.aload_n 0, 1) := by decide +kernel
theorem dX11_fails_594 : decode cX11_fails 594 = .ok (.iload 6, 2) := by decide +kernel
theorem dX11_fails_596 : decode cX11_fails 596 = .ok (.iload 7, 2) := by decide +kernel
theorem dX11_fails_598 : decode cX11_fails 598 = .ok (.iconst 0, 1) := by decide +kernel
theorem dX11_fails_599 : decode cX11_fails 599 = .ok (.invokevirtual 80, 3) := by decide +kernel
theorem dX11_fails_602 : decode cX11_fails 602 = .ok (.iconst (-1), 1) := by decide +kernel
theorem dX11_fails_603 : decode cX11_fails 603 = .ok (.if_icmp .ne 129, 3) := by decide +kernel
theorem dX11_fails_606 : decode cX11_fails 606 = .ok (.aload_n 0, 1) := by decide +kernel
theorem dX11_fails_607 : decode cX11_fails 607 = .ok (.iconst 0, 1) := by decide +kernel
theorem dX11_fails_608 : decode cX11_fails 608 = .ok (.iload 7, 2) := by decide +kernel
theorem dX11_fails_610 : decode cX11_fails 610 = .ok (.iconst 1, 1) := by decide +kernel
theorem dX11_fails_611 : decode cX11_fails 611 = .ok (.isub, 1) := by decide +kernel
theorem dX11_fails_612 : decode cX11_fails 612 = .ok (.iconst 0, 1) := by decide +kernel
theorem dX11_fails_613 : decode cX11_fails 613 = .ok (.invokevirtual 80, 3) := by decide +kernel
theorem dX11_fails_616 : decode cX11_fails 616 = .ok (.iconst (-1), 1) := by decide +kernel
theorem dX11_fails_617 : decode cX11_fails 617 = .ok (.if_icmp .ne 115, 3) := by decide +kernel
theorem dX11_fails_620 : decode cX11_fails 620 = .ok (.aload_n 0, 1) := by decide +kernel
theorem dX11_fails_621 : decode cX11_fails 621 = .ok (.iconst 0, 1) := by decide +kernel
theorem dX11_fails_622 : decode cX11_fails 622 = .ok (.sipush 1000, 3) := by decide +kernel
theorem dX11_fails_625 : decode cX11_fails 625 = .ok (.iconst 0, 1) := by decide +kernel
theorem dX11_fails_626 : decode cX11_fails 626 = .ok (.invokevirtual 80, 3) := by decide +kernel
theorem dX11_fails_629 : decode cX11_fails 629 = .ok (.iconst (-1), 1) := by decide +kernel
theorem dX11_fails_630 : decode cX11_fails 630 = .ok (.if_icmp .ne 102, 3) := by decide +kernel
theorem dX11_fails_633 : decode cX11_fails 633 = .ok (.aload_n 0, 1) := by decide +kernel
theorem dX11_fails_634 : decode cX11_fails 634 = .ok (.iconst 0, 1) := by decide +kernel
theorem dX11_fails_635 : decode cX11_fails 635 = .ok (.iload 7, 2) := by decide +kernel
theorem dX11_fails_637 : decode cX11_fails 637 = .ok (.iconst 4, 1) := by decide +kernel
theorem dX11_fails_638 : decode cX11_fails 638 = .ok (.invokevirtual 80, 3) := by decide +kernel
theorem dX11_fails_641 : decode cX11_fails 641 = .ok (.iconst (-1), 1) := by decide +kernel
theorem dX11_fails_642 : decode cX11_fails 642 = .ok (.if_icmp .ne 90, 3) := by decide +kernel
theorem dX11_fails_645 : decode cX11_fails 645 = .ok (.aload_n 0, 1) := by decide +kernel
theorem dX11_fails_646 : decode cX11_fails 646 = .ok (.iload 5, 2) := by decide +kernel
theorem dX11_fails_648 : decode cX11_fails 648 = .ok (.iload 7, 2) := by decide +kernel
theorem dX11_fails_650 : decode cX11_fails 650 = .ok (.invokevirtual 83, 3) := by decide +kernel
theorem dX11_fails_653 : decode cX11_fails 653 = .ok (.iconst (-1), 1) := by decide +kernel
theorem dX11_fails_654 : decode cX11_fails 654 = .ok (.if_icmp .ne 78, 3) := by decide +kernel
theorem dX11_fails_657 : decode cX11_fails 657 = .ok (.aload_n 0, 1) := by decide +kernel
theorem dX11_fails_658 : decode cX11_fails 658 = .ok (.iconst 0, 1) := by decide +kernel
theorem dX11_fails_659 : decode cX11_fails 659 = .ok (.sipush 1000, 3) := by decide +kernel
theorem dX11_fails_662 : decode cX11_fails 662 = .ok (.invokevirtual 83, 3) := by decide +kernel
theorem dX11_fails_665 : decode cX11_fails 665 = .ok (.iconst (-1), 1) := by decide +kernel
theorem dX11_fails_666 : decode cX11_fails 666 = .ok (.if_icmp .ne 66, 3) := by decide +kernel
theorem dX11_fails_669 : decode cX11_fails 669 = .ok (.aload_n 0, 1) := by decide +kernel
theorem dX11_fails_670 : decode cX11_fails 670 = .ok (.iload 5, 2) := by decide +kernel
theorem dX11_fails_672 : decode cX11_fails 672 = .ok (.invokevirtual 30, 3) := by decide +kernel
theorem dX11_fails_675 : decode cX11_fails 675 = .ok (.iconst (-1), 1) := by decide +kernel
theorem dX11_fails_676 : decode cX11_fails 676 = .ok (.if_icmp .ne 56, 3) := by decide +kernel
theorem dX11_fails_679 : decode cX11_fails 679 = .ok (.aload_n 0, 1) := by decide +kernel
theorem dX11_fails_680 : decode cX11_fails 680 = .ok (.bipush 6, 2) := by decide +kernel
theorem dX11_fails_682 : decode cX11_fails 682 = .ok (.invokevirtual 17, 3) := by decide +kernel
theorem dX11_fails_685 : decode cX11_fails 685 = .ok (.iconst (-1), 1) := by decide +kernel
theorem dX11_fails_686 : decode cX11_fails 686 = .ok (.if_icmp .ne 46, 3) := by decide +kernel
theorem dX11_fails_689 : decode cX11_fails 689 = .ok (.aload_n 0, 1) := by decide +kernel
theorem dX11_fails_690 : decode cX11_fails 690 = .ok (.bipush 11, 2) := by decide +kernel
theorem dX11_fails_692 : decode cX11_fails 692 = .ok (.invokevirtual 11, 3) := by decide +kernel
theorem dX11_fails_695 : decode cX11_fails 695 = .ok (.iconst (-1), 1) := by decide +kernel
theorem dX11_fails_696 : decode cX11_fails 696 = .ok (.if_icmp .ne 36, 3) := by decide +kernel
theorem dX11_fails_699 : decode cX11_fails 699 = .ok (.aload_n 0, 1) := by decide +kernel
theorem dX11_fails_700 : decode cX11_fails 700 = .ok (.bipush 22, 2) := by decide +kernel
theorem dX11_fails_702 : decode cX11_fails 702 = .ok (.invokevirtual 11, 3) := by decide +kernel
theorem dX11_fails_705 : decode cX11_fails 705 = .ok (.iconst (-1), 1) := by decide +kernel
theorem dX11_fails_706 : decode cX11_fails 706 = .ok (.if_icmp .ne 26, 3) := by decide +kernel
theorem dX11_fails_709 : decode cX11_fails 709 = .ok (.aload_n 0, 1) := by decide +kernel
theorem dX11_fails_710 : decode cX11_fails 710 = .ok (.bipush 31, 2) := by decide +kernel
theorem dX11_fails_712 : decode cX11_fails 712 = .ok (.invokevirtual 86, 3) := by decide +kernel
theorem dX11_fails_715 : decode cX11_fails 715 = .ok (.iconst (-1), 1) := by decide +kernel
theorem dX11_fails_716 : decode cX11_fails 716 = .ok (.if_icmp .ne 16, 3) := by decide +kernel
theorem dX11_fails_719 : decode cX11_fails 719 = .ok (.aload_n 0, 1) := by decide +kernel
theorem dX11_fails_720 : decode cX11_fails 720 = .ok (.iconst 3, 1) := by decide +kernel
theorem dX11_fails_721 : decode cX11_fails 721 = .ok (.invokevirtual 89, 3) := by decide +kernel
theorem dX11_fails_724 : decode cX11_fails 724 = .ok (.iconst (-1), 1) := by decide +kernel
theorem dX11_fails_725 : decode cX11_fails 725 = .ok (.if_icmp .ne 7, 3) := by decide +kernel
theorem dX11_fails_728 : decode cX11_fails 728 = .ok (.iconst 1, 1) := by decide +kernel
theorem dX11_fails_729 : decode cX11_fails 729 = .ok (.goto 4, 3) := by decide +kernel
theorem dX11_fails_732 : decode cX11_fails 732 = .ok (.iconst 0, 1) := by decide +kernel
theorem dX11_fails_733 : decode cX11_fails 733 = .ok (.istore 8, 2) := by decide +kernel
theorem dX11_fails_735 : decode cX11_fails 735 = .ok (.iload 8, 2) := by decide +kernel
theorem dX11_fails_737 : decode cX11_fails 737 = .ok (.ifCond .eq 26, 3) := by decide +kernel
theorem dX11_fails_740 : decode cX11_fails 740 = .ok (.aload_n 0, 1) := by decide +kernel
theorem dX11_fails_741 : decode cX11_fails 741 = .ok (.invokestatic 39, 3) := by decide +kernel
theorem dX11_fails_744 : decode cX11_fails 744 = .ok (.lload_n 1, 1) := by decide +kernel
theorem dX11_fails_745 : decode cX11_fails 745 = .ok (.lcmp, 1) := by decide +kernel
theorem dX11_fails_746 : decode cX11_fails 746 = .ok (.ifCond .ne 17, 3) := by decide +kernel
theorem dX11_fails_749 : decode cX11_fails 749 = .ok (.aload_n 0, 1) := by decide +kernel
theorem dX11_fails_750 : decode cX11_fails 750 = .ok (.bipush 9, 2) := by decide +kernel
theorem dX11_fails_752 : decode cX11_fails 752 = .ok (.invokevirtual 11, 3) := by decide +kernel
theorem dX11_fails_755 : decode cX11_fails 755 = .ok (.iload_n 3, 1) := by decide +kernel
theorem dX11_fails_756 : decode cX11_fails 756 = .ok (.if_icmp .ne 7, 3) := by decide +kernel
theorem dX11_fails_759 : decode cX11_fails 759 = .ok (.iconst 1, 1) := by decide +kernel
theorem dX11_fails_760 : decode cX11_fails 760 = .ok (.goto 4, 3) := by decide +kernel
theorem dX11_fails_763 : decode cX11_fails 763 = .ok (.iconst 0, 1) := by decide +kernel
theorem dX11_fails_764 : decode cX11_fails 764 = .ok (.ireturn, 1) := by decide +kernel
theorem dX11_streets_0 : decode cX11_streets 0 = .ok (.iconst 1, 1) := by decide +kernel
theorem dX11_streets_1 : decode cX11_streets 1 = .ok (.istore_n 1, 1) := by decide +kernel
theorem dX11_streets_2 : decode cX11_streets 2 = .ok (.iload_n 1, 1) := by decide +kernel
theorem dX11_streets_3 : decode cX11_streets 3 = .ok (.aload_n 0, 1) := by decide +kernel
theorem dX11_streets_4 : decode cX11_streets 4 = .ok (.iconst 0, 1) := by decide +kernel
theorem dX11_streets_5 : decode cX11_streets 5 = .ok (.invokevirtual 11, 3) := by decide +kernel
theorem dX11_streets_8 : decode cX11_streets 8 = .ok (.if_icmp .ge 99, 3) := by decide +kernel
theorem dX11_streets_11 : decode cX11_streets 11 = .ok (.aload_n 0, 1) := by decide +kernel
theorem dX11_streets_12 : decode cX11_streets 12 = .ok (.iload_n 1, 1) := by decide +kernel
theorem dX11_streets_13 : decode cX11_streets 13 = .ok (.iconst 0, 1) := by decide +kernel
theorem dX11_streets_14 : decode cX11_streets 14 = .ok (.invokevirtual 20, 3) := by decide +kernel
theorem dX11_streets_17 : decode cX11_streets 17 = .ok (.istore_n 2, 1) := by decide +kernel
theorem dX11_streets_18 : decode cX11_streets 18 = .ok (.iload_n 2, 1) := by decide +kernel
theorem dX11_streets_19 : decode cX11_streets 19 = .ok (.ifCond .lt 80, 3) := by decide +kernel
theorem dX11_streets_22 : decode cX11_streets 22 = .ok (.iload_n 2, 1) := by decide +kernel
theorem dX11_streets_23 : decode cX11_streets 23 = .ok (.iload_n 1, 1) := by decide +kernel
theorem dX11_streets_24 : decode cX11_streets 24 = .ok (.if_icmp .ge 75, 3) := by decide +kernel
theorem dX11_streets_27 : decode cX11_streets 27 = .ok (.aload_n 0, 1) := by decide +kernel
theorem dX11_streets_28 : decode cX11_streets 28 = .ok (.iload_n 1, 1) := by decide +kernel
theorem dX11_streets_29 : decode cX11_streets 29 = .ok (.iconst 4, 1) := by decide +kernel
theorem dX11_streets_30 : decode cX11_streets 30 = .ok (.invokevirtual 20, 3) := by decide +kernel
theorem dX11_streets_33 : decode cX11_streets 33 = .ok (.aload_n 0, 1) := by decide +kernel
theorem dX11_streets_34 : decode cX11_streets 34 = .ok (.iload_n 2, 1) := by decide +kernel
theorem dX11_streets_35 : decode cX11_streets 35 = .ok (.iconst 4, 1) := by decide +kernel
theorem dX11_streets_36 : decode cX11_streets 36 = .ok (.invokevirtual 20, 3) := by decide +kernel
theorem dX11_streets_39 : decode cX11_streets 39 = .ok (.aload_n 0, 1) := by decide +kernel
theorem dX11_streets_40 : decode cX11_streets 40 = .ok (.iload_n 1, 1) := by decide +kernel
