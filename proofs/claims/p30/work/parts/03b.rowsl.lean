theorem dX11_streets_41 : decode cX11_streets 41 = .ok (.iconst 1, 1) := by decide +kernel
theorem dX11_streets_42 : decode cX11_streets 42 = .ok (.invokevirtual 20, 3) := by decide +kernel
theorem dX11_streets_45 : decode cX11_streets 45 = .ok (.iadd, 1) := by decide +kernel
theorem dX11_streets_46 : decode cX11_streets 46 = .ok (.if_icmp .ne 53, 3) := by decide +kernel
theorem dX11_streets_49 : decode cX11_streets 49 = .ok (.aload_n 0, 1) := by decide +kernel
theorem dX11_streets_50 : decode cX11_streets 50 = .ok (.iload_n 1, 1) := by decide +kernel
theorem dX11_streets_51 : decode cX11_streets 51 = .ok (.bipush 6, 2) := by decide +kernel
theorem dX11_streets_53 : decode cX11_streets 53 = .ok (.invokevirtual 20, 3) := by decide +kernel
theorem dX11_streets_56 : decode cX11_streets 56 = .ok (.aload_n 0, 1) := by decide +kernel
theorem dX11_streets_57 : decode cX11_streets 57 = .ok (.iload_n 2, 1) := by decide +kernel
theorem dX11_streets_58 : decode cX11_streets 58 = .ok (.bipush 6, 2) := by decide +kernel
theorem dX11_streets_60 : decode cX11_streets 60 = .ok (.invokevirtual 20, 3) := by decide +kernel
theorem dX11_streets_63 : decode cX11_streets 63 = .ok (.iconst 1, 1) := by decide +kernel
theorem dX11_streets_64 : decode cX11_streets 64 = .ok (.if_icmp .ne 16, 3) := by decide +kernel
theorem dX11_streets_67 : decode cX11_streets 67 = .ok (.aload_n 0, 1) := by decide +kernel
theorem dX11_streets_68 : decode cX11_streets 68 = .ok (.iload_n 1, 1) := by decide +kernel
theorem dX11_streets_69 : decode cX11_streets 69 = .ok (.iconst 3, 1) := by decide +kernel
theorem dX11_streets_70 : decode cX11_streets 70 = .ok (.invokevirtual 20, 3) := by decide +kernel
theorem dX11_streets_73 : decode cX11_streets 73 = .ok (.ifCond .ne 7, 3) := by decide +kernel
theorem dX11_streets_76 : decode cX11_streets 76 = .ok (.iconst 1, 1) := by decide +kernel
theorem dX11_streets_77 : decode cX11_streets 77 = .ok (.goto 4, 3) := by decide +kernel
theorem dX11_streets_80 : decode cX11_streets 80 = .ok (.iconst 0, 1) := by decide +kernel
theorem dX11_streets_81 : decode cX11_streets 81 = .ok (.if_icmp .ne 18, 3) := by decide +kernel
theorem dX11_streets_84 : decode cX11_streets 84 = .ok (.aload_n 0, 1) := by decide +kernel
theorem dX11_streets_85 : decode cX11_streets 85 = .ok (.iload_n 1, 1) := by decide +kernel
theorem dX11_streets_86 : decode cX11_streets 86 = .ok (.iconst 5, 1) := by decide +kernel
theorem dX11_streets_87 : decode cX11_streets 87 = .ok (.invokevirtual 20, 3) := by decide +kernel
theorem dX11_streets_90 : decode cX11_streets 90 = .ok (.aload_n 0, 1) := by decide +kernel
theorem dX11_streets_91 : decode cX11_streets 91 = .ok (.iload_n 2, 1) := by decide +kernel
theorem dX11_streets_92 : decode cX11_streets 92 = .ok (.iconst 5, 1) := by decide +kernel
theorem dX11_streets_93 : decode cX11_streets 93 = .ok (.invokevirtual 20, 3) := by decide +kernel
theorem dX11_streets_96 : decode cX11_streets 96 = .ok (.if_icmp .le 5, 3) := by decide +kernel
theorem dX11_streets_99 : decode cX11_streets 99 = .ok (.iconst 0, 1) := by decide +kernel
theorem dX11_streets_100 : decode cX11_streets 100 = .ok (.ireturn, 1) := by decide +kernel
theorem dX11_streets_101 : decode cX11_streets 101 = .ok (.iinc 1 1, 3) := by decide +kernel
theorem dX11_streets_104 : decode cX11_streets 104 = .ok (.goto (-102), 3) := by decide +kernel
theorem dX11_streets_107 : decode cX11_streets 107 = .ok (.aload_n 0, 1) := by decide +kernel
theorem dX11_streets_108 : decode cX11_streets 108 = .ok (.iconst 0, 1) := by decide +kernel
theorem dX11_streets_109 : decode cX11_streets 109 = .ok (.iconst 4, 1) := by decide +kernel
theorem dX11_streets_110 : decode cX11_streets 110 = .ok (.invokevirtual 20, 3) := by decide +kernel
theorem dX11_streets_113 : decode cX11_streets 113 = .ok (.ifCond .ne 41, 3) := by decide +kernel
theorem dX11_streets_116 : decode cX11_streets 116 = .ok (.aload_n 0, 1) := by decide +kernel
theorem dX11_streets_117 : decode cX11_streets 117 = .ok (.iconst 0, 1) := by decide +kernel
theorem dX11_streets_118 : decode cX11_streets 118 = .ok (.iconst 2, 1) := by decide +kernel
theorem dX11_streets_119 : decode cX11_streets 119 = .ok (.invokevirtual 20, 3) := by decide +kernel
theorem dX11_streets_122 : decode cX11_streets 122 = .ok (.ifCond .ne 32, 3) := by decide +kernel
theorem dX11_streets_125 : decode cX11_streets 125 = .ok (.aload_n 0, 1) := by decide +kernel
theorem dX11_streets_126 : decode cX11_streets 126 = .ok (.iconst 0, 1) := by decide +kernel
theorem dX11_streets_127 : decode cX11_streets 127 = .ok (.bipush 6, 2) := by decide +kernel
theorem dX11_streets_129 : decode cX11_streets 129 = .ok (.invokevirtual 20, 3) := by decide +kernel
theorem dX11_streets_132 : decode cX11_streets 132 = .ok (.iconst 1, 1) := by decide +kernel
theorem dX11_streets_133 : decode cX11_streets 133 = .ok (.if_icmp .ne 21, 3) := by decide +kernel
theorem dX11_streets_136 : decode cX11_streets 136 = .ok (.aload_n 0, 1) := by decide +kernel
theorem dX11_streets_137 : decode cX11_streets 137 = .ok (.iconst 0, 1) := by decide +kernel
theorem dX11_streets_138 : decode cX11_streets 138 = .ok (.iconst 5, 1) := by decide +kernel
theorem dX11_streets_139 : decode cX11_streets 139 = .ok (.invokevirtual 20, 3) := by decide +kernel
theorem dX11_streets_142 : decode cX11_streets 142 = .ok (.aload_n 0, 1) := by decide +kernel
theorem dX11_streets_143 : decode cX11_streets 143 = .ok (.iconst 1, 1) := by decide +kernel
theorem dX11_streets_144 : decode cX11_streets 144 = .ok (.invokevirtual 11, 3) := by decide +kernel
theorem dX11_streets_147 : decode cX11_streets 147 = .ok (.if_icmp .ne 7, 3) := by decide +kernel
theorem dX11_streets_150 : decode cX11_streets 150 = .ok (.iconst 1, 1) := by decide +kernel
theorem dX11_streets_151 : decode cX11_streets 151 = .ok (.goto 4, 3) := by decide +kernel
theorem dX11_streets_154 : decode cX11_streets 154 = .ok (.iconst 0, 1) := by decide +kernel
theorem dX11_streets_155 : decode cX11_streets 155 = .ok (.ireturn, 1) := by decide +kernel
theorem dX11_papers_0 : decode cX11_papers 0 = .ok (.iconst 0, 1) := by decide +kernel
theorem dX11_papers_1 : decode cX11_papers 1 = .ok (.istore_n 2, 1) := by decide +kernel
theorem dX11_papers_2 : decode cX11_papers 2 = .ok (.iconst 0, 1) := by decide +kernel
theorem dX11_papers_3 : decode cX11_papers 3 = .ok (.istore_n 3, 1) := by decide +kernel
theorem dX11_papers_4 : decode cX11_papers 4 = .ok (.iconst 0, 1) := by decide +kernel
theorem dX11_papers_5 : decode cX11_papers 5 = .ok (.istore 4, 2) := by decide +kernel
theorem dX11_papers_7 : decode cX11_papers 7 = .ok (.iconst 0, 1) := by decide +kernel
theorem dX11_papers_8 : decode cX11_papers 8 = .ok (.istore 5, 2) := by decide +kernel
theorem dX11_papers_10 : decode cX11_papers 10 = .ok (.iconst 0, 1) := by decide +kernel
theorem dX11_papers_11 : decode cX11_papers 11 = .ok (.istore 6, 2) := by decide +kernel
theorem dX11_papers_13 : decode cX11_papers 13 = .ok (.iconst 0, 1) := by decide +kernel
theorem dX11_papers_14 : decode cX11_papers 14 = .ok (.istore 7, 2) := by decide +kernel
theorem dX11_papers_16 : decode cX11_papers 16 = .ok (.iconst 0, 1) := by decide +kernel
theorem dX11_papers_17 : decode cX11_papers 17 = .ok (.istore 8, 2) := by decide +kernel
theorem dX11_papers_19 : decode cX11_papers 19 = .ok (.iconst 0, 1) := by decide +kernel
theorem dX11_papers_20 : decode cX11_papers 20 = .ok (.istore 9, 2) := by decide +kernel
theorem dX11_papers_22 : decode cX11_papers 22 = .ok (.iload 9, 2) := by decide +kernel
theorem dX11_papers_24 : decode cX11_papers 24 = .ok (.aload_n 0, 1) := by decide +kernel
theorem dX11_papers_25 : decode cX11_papers 25 = .ok (.iconst 1, 1) := by decide +kernel
theorem dX11_papers_26 : decode cX11_papers 26 = .ok (.invokevirtual 11, 3) := by decide +kernel
theorem dX11_papers_29 : decode cX11_papers 29 = .ok (.if_icmp .ge 361, 3) := by decide +kernel
theorem dX11_papers_32 : decode cX11_papers 32 = .ok (.aload_n 0, 1) := by decide +kernel
theorem dX11_papers_33 : decode cX11_papers 33 = .ok (.iload 9, 2) := by decide +kernel
theorem dX11_papers_35 : decode cX11_papers 35 = .ok (.bipush 6, 2) := by decide +kernel
theorem dX11_papers_37 : decode cX11_papers 37 = .ok (.invokevirtual 24, 3) := by decide +kernel
theorem dX11_papers_40 : decode cX11_papers 40 = .ok (.istore 10, 2) := by decide +kernel
theorem dX11_papers_42 : decode cX11_papers 42 = .ok (.iload 10, 2) := by decide +kernel
theorem dX11_papers_44 : decode cX11_papers 44 = .ok (.aload_n 0, 1) := by decide +kernel
theorem dX11_papers_45 : decode cX11_papers 45 = .ok (.iload 9, 2) := by decide +kernel
theorem dX11_papers_47 : decode cX11_papers 47 = .ok (.bipush 8, 2) := by decide +kernel
theorem dX11_papers_49 : decode cX11_papers 49 = .ok (.invokevirtual 24, 3) := by decide +kernel
theorem dX11_papers_52 : decode cX11_papers 52 = .ok (.iadd, 1) := by decide +kernel
theorem dX11_papers_53 : decode cX11_papers 53 = .ok (.aload_n 0, 1) := by decide +kernel
theorem dX11_papers_54 : decode cX11_papers 54 = .ok (.iload 9, 2) := by decide +kernel
theorem dX11_papers_56 : decode cX11_papers 56 = .ok (.bipush 9, 2) := by decide +kernel
theorem dX11_papers_58 : decode cX11_papers 58 = .ok (.invokevirtual 24, 3) := by decide +kernel
theorem dX11_papers_61 : decode cX11_papers 61 = .ok (.iadd, 1) := by decide +kernel
theorem dX11_papers_62 : decode cX11_papers 62 = .ok (.istore 11, 2) := by decide +kernel
theorem dX11_papers_64 : decode cX11_papers 64 = .ok (.aload_n 0, 1) := by decide +kernel
theorem dX11_papers_65 : decode cX11_papers 65 = .ok (.iload 9, 2) := by decide +kernel
theorem dX11_papers_67 : decode cX11_papers 67 = .ok (.invokevirtual 27, 3) := by decide +kernel
theorem dX11_papers_70 : decode cX11_papers 70 = .ok (.istore 12, 2) := by decide +kernel
theorem dX11_papers_72 : decode cX11_papers 72 = .ok (.aload_n 0, 1) := by decide +kernel
theorem dX11_papers_73 : decode cX11_papers 73 = .ok (.iload 9, 2) := by decide +kernel
theorem dX11_papers_75 : decode cX11_papers 75 = .ok (.iconst 3, 1) := by decide +kernel
theorem dX11_papers_76 : decode cX11_papers 76 = .ok (.invokevirtual 24, 3) := by decide +kernel
theorem dX11_papers_79 : decode cX11_papers 79 = .ok (.istore 13, 2) := by decide +kernel
theorem dX11_papers_81 : decode cX11_papers 81 = .ok (.iload_n 2, 1) := by decide +kernel
theorem dX11_papers_82 : decode cX11_papers 82 = .ok (.iload 10, 2) := by decide +kernel
theorem dX11_papers_84 : decode cX11_papers 84 = .ok (.iadd, 1) := by decide +kernel
theorem dX11_papers_85 : decode cX11_papers 85 = .ok (.istore_n 2, 1) := by decide +kernel
theorem dX11_papers_86 : decode cX11_papers 86 = .ok (.iload_n 3, 1) := by decide +kernel
theorem dX11_papers_87 : decode cX11_papers 87 = .ok (.aload_n 0, 1) := by decide +kernel
theorem dX11_papers_88 : decode cX11_papers 88 = .ok (.iload 9, 2) := by decide +kernel
theorem dX11_papers_90 : decode cX11_papers 90 = .ok (.bipush 7, 2) := by decide +kernel
theorem dX11_papers_92 : decode cX11_papers 92 = .ok (.invokevirtual 24, 3) := by decide +kernel
theorem dX11_papers_95 : decode cX11_papers 95 = .ok (.iadd, 1) := by decide +kernel
theorem dX11_papers_96 : decode cX11_papers 96 = .ok (.istore_n 3, 1) := by decide +kernel
theorem dX11_papers_97 : decode cX11_papers 97 = .ok (.iload 4, 2) := by decide +kernel
theorem dX11_papers_99 : decode cX11_papers 99 = .ok (.aload_n 0, 1) := by decide +kernel
theorem dX11_papers_100 : decode cX11_papers 100 = .ok (.iload 9, 2) := by decide +kernel
theorem dX11_papers_102 : decode cX11_papers 102 = .ok (.bipush 8, 2) := by decide +kernel
theorem dX11_papers_104 : decode cX11_papers 104 = .ok (.invokevirtual 24, 3) := by decide +kernel
theorem dX11_papers_107 : decode cX11_papers 107 = .ok (.iadd, 1) := by decide +kernel
theorem dX11_papers_108 : decode cX11_papers 108 = .ok (.istore 4, 2) := by decide +kernel
theorem dX11_papers_110 : decode cX11_papers 110 = .ok (.iload 5, 2) := by decide +kernel
theorem dX11_papers_112 : decode cX11_papers 112 = .ok (.aload_n 0, 1) := by decide +kernel
theorem dX11_papers_113 : decode cX11_papers 113 = .ok (.iload 9, 2) := by decide +kernel
theorem dX11_papers_115 : decode cX11_papers 115 = .ok (.bipush 9, 2) := by decide +kernel
theorem dX11_papers_117 : decode cX11_papers 117 = .ok (.invokevirtual 24, 3) := by decide +kernel
theorem dX11_papers_120 : decode cX11_papers 120 = .ok (.iadd, 1) := by decide +kernel
theorem dX11_papers_121 : decode cX11_papers 121 = .ok (.istore 5, 2) := by decide +kernel
theorem dX11_papers_123 : decode cX11_papers 123 = .ok (.iload 6, 2) := by decide +kernel
theorem dX11_papers_125 : decode cX11_papers 125 = .ok (.aload_n 0, 1) := by decide +kernel
theorem dX11_papers_126 : decode cX11_papers 126 = .ok (.iload 9, 2) := by decide +kernel
theorem dX11_papers_128 : decode cX11_papers 128 = .ok (.bipush 10, 2) := by decide +kernel
theorem dX11_papers_130 : decode cX11_papers 130 = .ok (.invokevirtual 24, 3) := by decide +kernel
theorem dX11_papers_133 : decode cX11_papers 133 = .ok (.iadd, 1) := by decide +kernel
theorem dX11_papers_134 : decode cX11_papers 134 = .ok (.istore 6, 2) := by decide +kernel
theorem dX11_papers_136 : decode cX11_papers 136 = .ok (.iload 7, 2) := by decide +kernel
theorem dX11_papers_138 : decode cX11_papers 138 = .ok (.iload 13, 2) := by decide +kernel
theorem dX11_papers_140 : decode cX11_papers 140 = .ok (.bipush (-4), 2) := by decide +kernel
theorem dX11_papers_142 : decode cX11_papers 142 = .ok (.if_icmp .ne 7, 3) := by decide +kernel
theorem dX11_papers_145 : decode cX11_papers 145 = .ok (.iconst 1, 1) := by decide +kernel
theorem dX11_papers_146 : decode cX11_papers 146 = .ok (.goto 4, 3) := by decide +kernel
theorem dX11_papers_149 : decode cX11_papers 149 = .ok (.iconst 0, 1) := by decide +kernel
theorem dX11_papers_150 : decode cX11_papers 150 = .ok (.iadd, 1) := by decide +kernel
theorem dX11_papers_151 : decode cX11_papers 151 = .ok (.istore 7, 2) := by decide +kernel
theorem dX11_papers_153 : decode cX11_papers 153 = .ok (.iload 8, 2) := by decide +kernel
theorem dX11_papers_155 : decode cX11_papers 155 = .ok (.iload 11, 2) := by decide +kernel
theorem dX11_papers_157 : decode cX11_papers 157 = .ok (.ifCond .le 7, 3) := by decide +kernel
theorem dX11_papers_160 : decode cX11_papers 160 = .ok (.iconst 1, 1) := by decide +kernel
theorem dX11_papers_161 : decode cX11_papers 161 = .ok (.goto 4, 3) := by decide +kernel
theorem dX11_papers_164 : decode cX11_papers 164 = .ok (.iconst 0, 1) := by decide +kernel
theorem dX11_papers_165 : decode cX11_papers 165 = .ok (.iadd, 1) := by decide +kernel
theorem dX11_papers_166 : decode cX11_papers 166 = .ok (.istore 8, 2) := by decide +kernel
theorem dX11_papers_168 : decode cX11_papers 168 = .ok (.iload 11, 2) := by decide +kernel
theorem dX11_papers_170 : decode cX11_papers 170 = .ok (.ifCond .ne 18, 3) := by decide +kernel
theorem dX11_papers_173 : decode cX11_papers 173 = .ok (.iload 12, 2) := by decide +kernel
theorem dX11_papers_175 : decode cX11_papers 175 = .ok (.bipush (-4), 2) := by decide +kernel
theorem dX11_papers_177 : decode cX11_papers 177 = .ok (.if_icmp .ne 7, 3) := by decide +kernel
theorem dX11_papers_180 : decode cX11_papers 180 = .ok (.iconst 1, 1) := by decide +kernel
theorem dX11_papers_181 : decode cX11_papers 181 = .ok (.goto 95, 3) := by decide +kernel
theorem dX11_papers_184 : decode cX11_papers 184 = .ok (.iconst 0, 1) := by decide +kernel
theorem dX11_papers_185 : decode cX11_papers 185 = .ok (.goto 91, 3) := by decide +kernel
theorem dX11_papers_188 : decode cX11_papers 188 = .ok (.iload 10, 2) := by decide +kernel
theorem dX11_papers_190 : decode cX11_papers 190 = .ok (.ifCond .ne 16, 3) := by decide +kernel
theorem dX11_papers_193 : decode cX11_papers 193 = .ok (.iload 12, 2) := by decide +kernel
theorem dX11_papers_195 : decode cX11_papers 195 = .ok (.ifCond .ne 7, 3) := by decide +kernel
theorem dX11_papers_198 : decode cX11_papers 198 = .ok (.iconst 1, 1) := by decide +kernel
theorem dX11_papers_199 : decode cX11_papers 199 = .ok (.goto 77, 3) := by decide +kernel
theorem dX11_papers_202 : decode cX11_papers 202 = .ok (.iconst 0, 1) := by decide +kernel
theorem dX11_papers_203 : decode cX11_papers 203 = .ok (.goto 73, 3) := by decide +kernel
theorem dX11_papers_206 : decode cX11_papers 206 = .ok (.iload 10, 2) := by decide +kernel
theorem dX11_papers_208 : decode cX11_papers 208 = .ok (.iload 11, 2) := by decide +kernel
theorem dX11_papers_210 : decode cX11_papers 210 = .ok (.if_icmp .ne 18, 3) := by decide +kernel
theorem dX11_papers_213 : decode cX11_papers 213 = .ok (.iload 12, 2) := by decide +kernel
theorem dX11_papers_215 : decode cX11_papers 215 = .ok (.ldc 92, 2) := by decide +kernel
theorem dX11_papers_217 : decode cX11_papers 217 = .ok (.if_icmp .ne 7, 3) := by decide +kernel
theorem dX11_papers_220 : decode cX11_papers 220 = .ok (.iconst 1, 1) := by decide +kernel
theorem dX11_papers_221 : decode cX11_papers 221 = .ok (.goto 55, 3) := by decide +kernel
theorem dX11_papers_224 : decode cX11_papers 224 = .ok (.iconst 0, 1) := by decide +kernel
theorem dX11_papers_225 : decode cX11_papers 225 = .ok (.goto 51, 3) := by decide +kernel
theorem dX11_papers_228 : decode cX11_papers 228 = .ok (.iconst 2, 1) := by decide +kernel
theorem dX11_papers_229 : decode cX11_papers 229 = .ok (.iload 10, 2) := by decide +kernel
theorem dX11_papers_231 : decode cX11_papers 231 = .ok (.imul, 1) := by decide +kernel
theorem dX11_papers_232 : decode cX11_papers 232 = .ok (.iload 11, 2) := by decide +kernel
theorem dX11_papers_234 : decode cX11_papers 234 = .ok (.if_icmp .lt 25, 3) := by decide +kernel
theorem dX11_papers_237 : decode cX11_papers 237 = .ok (.iload 12, 2) := by decide +kernel
theorem dX11_papers_239 : decode cX11_papers 239 = .ok (.ldc 93, 2) := by decide +kernel
theorem dX11_papers_241 : decode cX11_papers 241 = .ok (.if_icmp .lt 14, 3) := by decide +kernel
theorem dX11_papers_244 : decode cX11_papers 244 = .ok (.iload 12, 2) := by decide +kernel
theorem dX11_papers_246 : decode cX11_papers 246 = .ok (.ldc 92, 2) := by decide +kernel
theorem dX11_papers_248 : decode cX11_papers 248 = .ok (.if_icmp .ge 7, 3) := by decide +kernel
theorem dX11_papers_251 : decode cX11_papers 251 = .ok (.iconst 1, 1) := by decide +kernel
theorem dX11_papers_252 : decode cX11_papers 252 = .ok (.goto 24, 3) := by decide +kernel
theorem dX11_papers_255 : decode cX11_papers 255 = .ok (.iconst 0, 1) := by decide +kernel
theorem dX11_papers_256 : decode cX11_papers 256 = .ok (.goto 20, 3) := by decide +kernel
theorem dX11_papers_259 : decode cX11_papers 259 = .ok (.iload 12, 2) := by decide +kernel
theorem dX11_papers_261 : decode cX11_papers 261 = .ok (.ifCond .le 14, 3) := by decide +kernel
theorem dX11_papers_264 : decode cX11_papers 264 = .ok (.iload 12, 2) := by decide +kernel
theorem dX11_papers_266 : decode cX11_papers 266 = .ok (.ldc 93, 2) := by decide +kernel
theorem dX11_papers_268 : decode cX11_papers 268 = .ok (.if_icmp .ge 7, 3) := by decide +kernel
theorem dX11_papers_271 : decode cX11_papers 271 = .ok (.iconst 1, 1) := by decide +kernel
theorem dX11_papers_272 : decode cX11_papers 272 = .ok (.goto 4, 3) := by decide +kernel
theorem dX11_papers_275 : decode cX11_papers 275 = .ok (.iconst 0, 1) := by decide +kernel
theorem dX11_papers_276 : decode cX11_papers 276 = .ok (.istore 14, 2) := by decide +kernel
theorem dX11_papers_278 : decode cX11_papers 278 = .ok (.aload_n 0, 1) := by decide +kernel
theorem dX11_papers_279 : decode cX11_papers 279 = .ok (.iload 9, 2) := by decide +kernel
theorem dX11_papers_281 : decode cX11_papers 281 = .ok (.iconst 1, 1) := by decide +kernel
theorem dX11_papers_282 : decode cX11_papers 282 = .ok (.invokevirtual 24, 3) := by decide +kernel
theorem dX11_papers_285 : decode cX11_papers 285 = .ok (.istore 15, 2) := by decide +kernel
theorem dX11_papers_287 : decode cX11_papers 287 = .ok (.iload 14, 2) := by decide +kernel
theorem dX11_papers_289 : decode cX11_papers 289 = .ok (.ifCond .eq 93, 3) := by decide +kernel
theorem dX11_papers_292 : decode cX11_papers 292 = .ok (.aload_n 0, 1) := by decide +kernel
theorem dX11_papers_293 : decode cX11_papers 293 = .ok (.iload 9, 2) := by decide +kernel
theorem dX11_papers_295 : decode cX11_papers 295 = .ok (.bipush 8, 2) := by decide +kernel
theorem dX11_papers_297 : decode cX11_papers 297 = .ok (.invokevirtual 24, 3) := by decide +kernel
theorem dX11_papers_300 : decode cX11_papers 300 = .ok (.aload_n 0, 1) := by decide +kernel
theorem dX11_papers_301 : decode cX11_papers 301 = .ok (.iload 9, 2) := by decide +kernel
theorem dX11_papers_303 : decode cX11_papers 303 = .ok (.bipush 9, 2) := by decide +kernel
theorem dX11_papers_305 : decode cX11_papers 305 = .ok (.invokevirtual 24, 3) := by decide +kernel
theorem dX11_papers_308 : decode cX11_papers 308 = .ok (.iadd, 1) := by decide +kernel
theorem dX11_papers_309 : decode cX11_papers 309 = .ok (.iload 15, 2) := by decide +kernel
theorem dX11_papers_311 : decode cX11_papers 311 = .ok (.aload_n 0, 1) := by decide +kernel
theorem dX11_papers_312 : decode cX11_papers 312 = .ok (.iload 9, 2) := by decide +kernel
theorem dX11_papers_314 : decode cX11_papers 314 = .ok (.bipush 10, 2) := by decide +kernel
theorem dX11_papers_316 : decode cX11_papers 316 = .ok (.invokevirtual 24, 3) := by decide +kernel
theorem dX11_papers_319 : decode cX11_papers 319 = .ok (.imul, 1) := by decide +kernel
theorem dX11_papers_320 : decode cX11_papers 320 = .ok (.if_icmp .ne 62, 3) := by decide +kernel
theorem dX11_papers_323 : decode cX11_papers 323 = .ok (.aload_n 0, 1) := by decide +kernel
theorem dX11_papers_324 : decode cX11_papers 324 = .ok (.iload 9, 2) := by decide +kernel
theorem dX11_papers_326 : decode cX11_papers 326 = .ok (.bipush 11, 2) := by decide +kernel
theorem dX11_papers_328 : decode cX11_papers 328 = .ok (.invokevirtual 24, 3) := by decide +kernel
theorem dX11_papers_331 : decode cX11_papers 331 = .ok (.aload_n 0, 1) := by decide +kernel
theorem dX11_papers_332 : decode cX11_papers 332 = .ok (.iload 9, 2) := by decide +kernel
theorem dX11_papers_334 : decode cX11_papers 334 = .ok (.bipush 10, 2) := by decide +kernel
theorem dX11_papers_336 : decode cX11_papers 336 = .ok (.invokevirtual 24, 3) := by decide +kernel
theorem dX11_papers_339 : decode cX11_papers 339 = .ok (.if_icmp .gt 43, 3) := by decide +kernel
theorem dX11_papers_342 : decode cX11_papers 342 = .ok (.iload 11, 2) := by decide +kernel
theorem dX11_papers_344 : decode cX11_papers 344 = .ok (.iload 15, 2) := by decide +kernel
theorem dX11_papers_346 : decode cX11_papers 346 = .ok (.irem, 1) := by decide +kernel
theorem dX11_papers_347 : decode cX11_papers 347 = .ok (.ifCond .ne 35, 3) := by decide +kernel
theorem dX11_papers_350 : decode cX11_papers 350 = .ok (.iload 13, 2) := by decide +kernel
theorem dX11_papers_352 : decode cX11_papers 352 = .ok (.ifCond .lt 32, 3) := by decide +kernel
theorem dX11_papers_355 : decode cX11_papers 355 = .ok (.aload_n 0, 1) := by decide +kernel
theorem dX11_papers_356 : decode cX11_papers 356 = .ok (.iload 13, 2) := by decide +kernel
theorem dX11_papers_358 : decode cX11_papers 358 = .ok (.iconst 0, 1) := by decide +kernel
theorem dX11_papers_359 : decode cX11_papers 359 = .ok (.invokevirtual 33, 3) := by decide +kernel
theorem dX11_papers_362 : decode cX11_papers 362 = .ok (.iconst 1, 1) := by decide +kernel
theorem dX11_papers_363 : decode cX11_papers 363 = .ok (.if_icmp .ne 21, 3) := by decide +kernel
theorem dX11_papers_366 : decode cX11_papers 366 = .ok (.aload_n 0, 1) := by decide +kernel
theorem dX11_papers_367 : decode cX11_papers 367 = .ok (.aload_n 0, 1) := by decide +kernel
theorem dX11_papers_368 : decode cX11_papers 368 = .ok (.iload 9, 2) := by decide +kernel
theorem dX11_papers_370 : decode cX11_papers 370 = .ok (.iconst 0, 1) := by decide +kernel
theorem dX11_papers_371 : decode cX11_papers 371 = .ok (.invokevirtual 24, 3) := by decide +kernel
theorem dX11_papers_374 : decode cX11_papers 374 = .ok (.bipush 6, 2) := by decide +kernel
theorem dX11_papers_376 : decode cX11_papers 376 = .ok (.invokevirtual 20, 3) := by decide +kernel
theorem dX11_papers_379 : decode cX11_papers 379 = .ok (.ifCond .ne 5, 3) := by decide +kernel
theorem dX11_papers_382 : decode cX11_papers 382 = .ok (.iconst 0, 1) := by decide +kernel
theorem dX11_papers_383 : decode cX11_papers 383 = .ok (.ireturn, 1) := by decide +kernel
theorem dX11_papers_384 : decode cX11_papers 384 = .ok (.iinc 9 1, 3) := by decide +kernel
theorem dX11_papers_387 : decode cX11_papers 387 = .ok (.goto (-365), 3) := by decide +kernel
theorem dX11_papers_390 : decode cX11_papers 390 = .ok (.iconst 0, 1) := by decide +kernel
theorem dX11_papers_391 : decode cX11_papers 391 = .ok (.istore 9, 2) := by decide +kernel
theorem dX11_papers_393 : decode cX11_papers 393 = .ok (.iconst 0, 1) := by decide +kernel
theorem dX11_papers_394 : decode cX11_papers 394 = .ok (.istore 10, 2) := by decide +kernel
theorem dX11_papers_396 : decode cX11_papers 396 = .ok (.iconst 0, 1) := by decide +kernel
theorem dX11_papers_397 : decode cX11_papers 397 = .ok (.istore 11, 2) := by decide +kernel
theorem dX11_papers_399 : decode cX11_papers 399 = .ok (.iconst 0, 1) := by decide +kernel
theorem dX11_papers_400 : decode cX11_papers 400 = .ok (.istore 12, 2) := by decide +kernel
theorem dX11_papers_402 : decode cX11_papers 402 = .ok (.iload 12, 2) := by decide +kernel
theorem dX11_papers_404 : decode cX11_papers 404 = .ok (.aload_n 0, 1) := by decide +kernel
theorem dX11_papers_405 : decode cX11_papers 405 = .ok (.iconst 2, 1) := by decide +kernel
theorem dX11_papers_406 : decode cX11_papers 406 = .ok (.invokevirtual 11, 3) := by decide +kernel
theorem dX11_papers_409 : decode cX11_papers 409 = .ok (.if_icmp .ge 47, 3) := by decide +kernel
theorem dX11_papers_412 : decode cX11_papers 412 = .ok (.iload 9, 2) := by decide +kernel
theorem dX11_papers_414 : decode cX11_papers 414 = .ok (.aload_n 0, 1) := by decide +kernel
theorem dX11_papers_415 : decode cX11_papers 415 = .ok (.iload 12, 2) := by decide +kernel
theorem dX11_papers_417 : decode cX11_papers 417 = .ok (.bipush 7, 2) := by decide +kernel
theorem dX11_papers_419 : decode cX11_papers 419 = .ok (.invokevirtual 33, 3) := by decide +kernel
theorem dX11_papers_422 : decode cX11_papers 422 = .ok (.iadd, 1) := by decide +kernel
theorem dX11_papers_423 : decode cX11_papers 423 = .ok (.istore 9, 2) := by decide +kernel
theorem dX11_papers_425 : decode cX11_papers 425 = .ok (.iload 10, 2) := by decide +kernel
theorem dX11_papers_427 : decode cX11_papers 427 = .ok (.aload_n 0, 1) := by decide +kernel
theorem dX11_papers_428 : decode cX11_papers 428 = .ok (.iload 12, 2) := by decide +kernel
theorem dX11_papers_430 : decode cX11_papers 430 = .ok (.bipush 6, 2) := by decide +kernel
theorem dX11_papers_432 : decode cX11_papers 432 = .ok (.invokevirtual 33, 3) := by decide +kernel
theorem dX11_papers_435 : decode cX11_papers 435 = .ok (.iadd, 1) := by decide +kernel
theorem dX11_papers_436 : decode cX11_papers 436 = .ok (.istore 10, 2) := by decide +kernel
theorem dX11_papers_438 : decode cX11_papers 438 = .ok (.iload 11, 2) := by decide +kernel
theorem dX11_papers_440 : decode cX11_papers 440 = .ok (.aload_n 0, 1) := by decide +kernel
theorem dX11_papers_441 : decode cX11_papers 441 = .ok (.iload 12, 2) := by decide +kernel
theorem dX11_papers_443 : decode cX11_papers 443 = .ok (.iconst 3, 1) := by decide +kernel
theorem dX11_papers_444 : decode cX11_papers 444 = .ok (.invokevirtual 33, 3) := by decide +kernel
theorem dX11_papers_447 : decode cX11_papers 447 = .ok (.iadd, 1) := by decide +kernel
theorem dX11_papers_448 : decode cX11_papers 448 = .ok (.istore 11, 2) := by decide +kernel
theorem dX11_papers_450 : decode cX11_papers 450 = .ok (.iinc 12 1, 3) := by decide +kernel
theorem dX11_papers_453 : decode cX11_papers 453 = .ok (.goto (-51), 3) := by decide +kernel
theorem dX11_papers_456 : decode cX11_papers 456 = .ok (.iload 9, 2) := by decide +kernel
theorem dX11_papers_458 : decode cX11_papers 458 = .ok (.iload_n 2, 1) := by decide +kernel
theorem dX11_papers_459 : decode cX11_papers 459 = .ok (.if_icmp .ne 145, 3) := by decide +kernel
theorem dX11_papers_462 : decode cX11_papers 462 = .ok (.iload 10, 2) := by decide +kernel
theorem dX11_papers_464 : decode cX11_papers 464 = .ok (.aload_n 0, 1) := by decide +kernel
theorem dX11_papers_465 : decode cX11_papers 465 = .ok (.bipush 8, 2) := by decide +kernel
theorem dX11_papers_467 : decode cX11_papers 467 = .ok (.invokevirtual 11, 3) := by decide +kernel
theorem dX11_papers_470 : decode cX11_papers 470 = .ok (.if_icmp .ne 134, 3) := by decide +kernel
theorem dX11_papers_473 : decode cX11_papers 473 = .ok (.iload 11, 2) := by decide +kernel
theorem dX11_papers_475 : decode cX11_papers 475 = .ok (.iload 7, 2) := by decide +kernel
theorem dX11_papers_477 : decode cX11_papers 477 = .ok (.iadd, 1) := by decide +kernel
theorem dX11_papers_478 : decode cX11_papers 478 = .ok (.aload_n 0, 1) := by decide +kernel
theorem dX11_papers_479 : decode cX11_papers 479 = .ok (.iconst 1, 1) := by decide +kernel
theorem dX11_papers_480 : decode cX11_papers 480 = .ok (.invokevirtual 11, 3) := by decide +kernel
theorem dX11_papers_483 : decode cX11_papers 483 = .ok (.if_icmp .ne 121, 3) := by decide +kernel
theorem dX11_papers_486 : decode cX11_papers 486 = .ok (.iload 7, 2) := by decide +kernel
theorem dX11_papers_488 : decode cX11_papers 488 = .ok (.aload_n 0, 1) := by decide +kernel
theorem dX11_papers_489 : decode cX11_papers 489 = .ok (.iconst 5, 1) := by decide +kernel
theorem dX11_papers_490 : decode cX11_papers 490 = .ok (.invokevirtual 11, 3) := by decide +kernel
theorem dX11_papers_493 : decode cX11_papers 493 = .ok (.if_icmp .ne 111, 3) := by decide +kernel
theorem dX11_papers_496 : decode cX11_papers 496 = .ok (.aload_n 0, 1) := by decide +kernel
theorem dX11_papers_497 : decode cX11_papers 497 = .ok (.iconst 1, 1) := by decide +kernel
theorem dX11_papers_498 : decode cX11_papers 498 = .ok (.invokevirtual 17, 3) := by decide +kernel
theorem dX11_papers_501 : decode cX11_papers 501 = .ok (.iload_n 2, 1) := by decide +kernel
theorem dX11_papers_502 : decode cX11_papers 502 = .ok (.if_icmp .ne 102, 3) := by decide +kernel
theorem dX11_papers_505 : decode cX11_papers 505 = .ok (.aload_n 0, 1) := by decide +kernel
theorem dX11_papers_506 : decode cX11_papers 506 = .ok (.iconst 2, 1) := by decide +kernel
theorem dX11_papers_507 : decode cX11_papers 507 = .ok (.invokevirtual 17, 3) := by decide +kernel
theorem dX11_papers_510 : decode cX11_papers 510 = .ok (.iload_n 3, 1) := by decide +kernel
theorem dX11_papers_511 : decode cX11_papers 511 = .ok (.if_icmp .ne 93, 3) := by decide +kernel
theorem dX11_papers_514 : decode cX11_papers 514 = .ok (.aload_n 0, 1) := by decide +kernel
theorem dX11_papers_515 : decode cX11_papers 515 = .ok (.iconst 3, 1) := by decide +kernel
theorem dX11_papers_516 : decode cX11_papers 516 = .ok (.invokevirtual 17, 3) := by decide +kernel
theorem dX11_papers_519 : decode cX11_papers 519 = .ok (.aload_n 0, 1) := by decide +kernel
theorem dX11_papers_520 : decode cX11_papers 520 = .ok (.iconst 4, 1) := by decide +kernel
theorem dX11_papers_521 : decode cX11_papers 521 = .ok (.invokevirtual 17, 3) := by decide +kernel
theorem dX11_papers_524 : decode cX11_papers 524 = .ok (.iadd, 1) := by decide +kernel
theorem dX11_papers_525 : decode cX11_papers 525 = .ok (.iload 4, 2) := by decide +kernel
theorem dX11_papers_527 : decode cX11_papers 527 = .ok (.if_icmp .ne 77, 3) := by decide +kernel
theorem dX11_papers_530 : decode cX11_papers 530 = .ok (.aload_n 0, 1) := by decide +kernel
theorem dX11_papers_531 : decode cX11_papers 531 = .ok (.iconst 5, 1) := by decide +kernel
theorem dX11_papers_532 : decode cX11_papers 532 = .ok (.invokevirtual 17, 3) := by decide +kernel
theorem dX11_papers_535 : decode cX11_papers 535 = .ok (.iload 5, 2) := by decide +kernel
theorem dX11_papers_537 : decode cX11_papers 537 = .ok (.if_icmp .ne 67, 3) := by decide +kernel
theorem dX11_papers_540 : decode cX11_papers 540 = .ok (.aload_n 0, 1) := by decide +kernel
theorem dX11_papers_541 : decode cX11_papers 541 = .ok (.iconst 0, 1) := by decide +kernel
theorem dX11_papers_542 : decode cX11_papers 542 = .ok (.invokevirtual 17, 3) := by decide +kernel
theorem dX11_papers_545 : decode cX11_papers 545 = .ok (.iload_n 1, 1) := by decide +kernel
theorem dX11_papers_546 : decode cX11_papers 546 = .ok (.if_icmp .ne 58, 3) := by decide +kernel
theorem dX11_papers_549 : decode cX11_papers 549 = .ok (.iload_n 2, 1) := by decide +kernel
theorem dX11_papers_550 : decode cX11_papers 550 = .ok (.iload_n 3, 1) := by decide +kernel
theorem dX11_papers_551 : decode cX11_papers 551 = .ok (.iadd, 1) := by decide +kernel
theorem dX11_papers_552 : decode cX11_papers 552 = .ok (.iload 4, 2) := by decide +kernel
theorem dX11_papers_554 : decode cX11_papers 554 = .ok (.iadd, 1) := by decide +kernel
theorem dX11_papers_555 : decode cX11_papers 555 = .ok (.iload 5, 2) := by decide +kernel
theorem dX11_papers_557 : decode cX11_papers 557 = .ok (.iadd, 1) := by decide +kernel
theorem dX11_papers_558 : decode cX11_papers 558 = .ok (.iload_n 1, 1) := by decide +kernel
theorem dX11_papers_559 : decode cX11_papers 559 = .ok (.if_icmp .ne 45, 3) := by decide +kernel
theorem dX11_papers_562 : decode cX11_papers 562 = .ok (.iload 6, 2) := by decide +kernel
theorem dX11_papers_564 : decode cX11_papers 564 = .ok (.aload_n 0, 1) := by decide +kernel
theorem dX11_papers_565 : decode cX11_papers 565 = .ok (.bipush 7, 2) := by decide +kernel
theorem dX11_papers_567 : decode cX11_papers 567 = .ok (.invokevirtual 11, 3) := by decide +kernel
theorem dX11_papers_570 : decode cX11_papers 570 = .ok (.if_icmp .ne 34, 3) := by decide +kernel
theorem dX11_papers_573 : decode cX11_papers 573 = .ok (.aload_n 0, 1) := by decide +kernel
theorem dX11_papers_574 : decode cX11_papers 574 = .ok (.invokevirtual 94, 3) := by decide +kernel
theorem dX11_papers_577 : decode cX11_papers 577 = .ok (.bipush (-4), 2) := by decide +kernel
theorem dX11_papers_579 : decode cX11_papers 579 = .ok (.if_icmp .ne 7, 3) := by decide +kernel
theorem dX11_papers_582 : decode cX11_papers 582 = .ok (.iconst 1, 1) := by decide +kernel
theorem dX11_papers_583 : decode cX11_papers 583 = .ok (.goto 4, 3) := by decide +kernel
theorem dX11_papers_586 : decode cX11_papers 586 = .ok (.iconst 0, 1) := by decide +kernel
theorem dX11_papers_587 : decode cX11_papers 587 = .ok (.iload 8, 2) := by decide +kernel
theorem dX11_papers_589 : decode cX11_papers 589 = .ok (.ifCond .ne 7, 3) := by decide +kernel
theorem dX11_papers_592 : decode cX11_papers 592 = .ok (.iconst 1, 1) := by decide +kernel
theorem dX11_papers_593 : decode cX11_papers 593 = .ok (.goto 4, 3) := by decide +kernel
theorem dX11_papers_596 : decode cX11_papers 596 = .ok (.iconst 0, 1) := by decide +kernel
theorem dX11_papers_597 : decode cX11_papers 597 = .ok (.if_icmp .ne 7, 3) := by decide +kernel
theorem dX11_papers_600 : decode cX11_papers 600 = .ok (.iconst 1, 1) := by decide +kernel
theorem dX11_papers_601 : decode cX11_papers 601 = .ok (.goto 4, 3) := by decide +kernel
theorem dX11_papers_604 : decode cX11_papers 604 = .ok (.iconst 0, 1) := by decide +kernel
theorem dX11_papers_605 : decode cX11_papers 605 = .ok (.ireturn, 1) := by decide +kernel
theorem dX11_rounds_0 : decode cX11_rounds 0 = .ok (.iconst 0, 1) := by decide +kernel
theorem dX11_rounds_1 : decode cX11_rounds 1 = .ok (.istore_n 1, 1) := by decide +kernel
theorem dX11_rounds_2 : decode cX11_rounds 2 = .ok (.iload_n 1, 1) := by decide +kernel
theorem dX11_rounds_3 : decode cX11_rounds 3 = .ok (.aload_n 0, 1) := by decide +kernel
theorem dX11_rounds_4 : decode cX11_rounds 4 = .ok (.iconst 2, 1) := by decide +kernel
theorem dX11_rounds_5 : decode cX11_rounds 5 = .ok (.invokevirtual 11, 3) := by decide +kernel
theorem dX11_rounds_8 : decode cX11_rounds 8 = .ok (.if_icmp .ge 239, 3) := by decide +kernel
theorem dX11_rounds_11 : decode cX11_rounds 11 = .ok (.aload_n 0, 1) := by decide +kernel
theorem dX11_rounds_12 : decode cX11_rounds 12 = .ok (.iload_n 1, 1) := by decide +kernel
theorem dX11_rounds_13 : decode cX11_rounds 13 = .ok (.iconst 3, 1) := by decide +kernel
theorem dX11_rounds_14 : decode cX11_rounds 14 = .ok (.invokevirtual 33, 3) := by decide +kernel
theorem dX11_rounds_17 : decode cX11_rounds 17 = .ok (.istore_n 2, 1) := by decide +kernel
theorem dX11_rounds_18 : decode cX11_rounds 18 = .ok (.iconst 0, 1) := by decide +kernel
theorem dX11_rounds_19 : decode cX11_rounds 19 = .ok (.istore_n 3, 1) := by decide +kernel
theorem dX11_rounds_20 : decode cX11_rounds 20 = .ok (.iconst 0, 1) := by decide +kernel
theorem dX11_rounds_21 : decode cX11_rounds 21 = .ok (.istore 4, 2) := by decide +kernel
theorem dX11_rounds_23 : decode cX11_rounds 23 = .ok (.iload 4, 2) := by decide +kernel
theorem dX11_rounds_25 : decode cX11_rounds 25 = .ok (.iload_n 2, 1) := by decide +kernel
theorem dX11_rounds_26 : decode cX11_rounds 26 = .ok (.if_icmp .ge 202, 3) := by decide +kernel
theorem dX11_rounds_29 : decode cX11_rounds 29 = .ok (.aload_n 0, 1) := by decide +kernel
theorem dX11_rounds_30 : decode cX11_rounds 30 = .ok (.iload_n 1, 1) := by decide +kernel
theorem dX11_rounds_31 : decode cX11_rounds 31 = .ok (.iload 4, 2) := by decide +kernel
theorem dX11_rounds_33 : decode cX11_rounds 33 = .ok (.invokevirtual 77, 3) := by decide +kernel
theorem dX11_rounds_36 : decode cX11_rounds 36 = .ok (.istore 5, 2) := by decide +kernel
theorem dX11_rounds_38 : decode cX11_rounds 38 = .ok (.iload 5, 2) := by decide +kernel
theorem dX11_rounds_40 : decode cX11_rounds 40 = .ok (.ifCond .lt 24, 3) := by decide +kernel
theorem dX11_rounds_43 : decode cX11_rounds 43 = .ok (.aload_n 0, 1) := by decide +kernel
theorem dX11_rounds_44 : decode cX11_rounds 44 = .ok (.iload 5, 2) := by decide +kernel
theorem dX11_rounds_46 : decode cX11_rounds 46 = .ok (.iconst 3, 1) := by decide +kernel
theorem dX11_rounds_47 : decode cX11_rounds 47 = .ok (.invokevirtual 24, 3) := by decide +kernel
theorem dX11_rounds_50 : decode cX11_rounds 50 = .ok (.iload_n 1, 1) := by decide +kernel
theorem dX11_rounds_51 : decode cX11_rounds 51 = .ok (.if_icmp .ne 13, 3) := by decide +kernel
theorem dX11_rounds_54 : decode cX11_rounds 54 = .ok (.iload_n 3, 1) := by decide +kernel
theorem dX11_rounds_55 : decode cX11_rounds 55 = .ok (.iload 5, 2) := by decide +kernel
theorem dX11_rounds_57 : decode cX11_rounds 57 = .ok (.ishr, 1) := by decide +kernel
theorem dX11_rounds_58 : decode cX11_rounds 58 = .ok (.iconst 1, 1) := by decide +kernel
theorem dX11_rounds_59 : decode cX11_rounds 59 = .ok (.iand, 1) := by decide +kernel
theorem dX11_rounds_60 : decode cX11_rounds 60 = .ok (.iconst 1, 1) := by decide +kernel
theorem dX11_rounds_61 : decode cX11_rounds 61 = .ok (.if_icmp .ne 5, 3) := by decide +kernel
theorem dX11_rounds_64 : decode cX11_rounds 64 = .ok (.iconst 0, 1) := by decide +kernel
theorem dX11_rounds_65 : decode cX11_rounds 65 = .ok (.ireturn, 1) := by decide +kernel
theorem dX11_rounds_66 : decode cX11_rounds 66 = .ok (.iload_n 3, 1) := by decide +kernel
theorem dX11_rounds_67 : decode cX11_rounds 67 = .ok (.iconst 1, 1) := by decide +kernel
theorem dX11_rounds_68 : decode cX11_rounds 68 = .ok (.iload 5, 2) := by decide +kernel
theorem dX11_rounds_70 : decode cX11_rounds 70 = .ok (.ishl, 1) := by decide +kernel
theorem dX11_rounds_71 : decode cX11_rounds 71 = .ok (.ior, 1) := by decide +kernel
theorem dX11_rounds_72 : decode cX11_rounds 72 = .ok (.istore_n 3, 1) := by decide +kernel
theorem dX11_rounds_73 : decode cX11_rounds 73 = .ok (.iload 4, 2) := by decide +kernel
theorem dX11_rounds_75 : decode cX11_rounds 75 = .ok (.iconst 1, 1) := by decide +kernel
theorem dX11_rounds_76 : decode cX11_rounds 76 = .ok (.iadd, 1) := by decide +kernel
theorem dX11_rounds_77 : decode cX11_rounds 77 = .ok (.iload_n 2, 1) := by decide +kernel
theorem dX11_rounds_78 : decode cX11_rounds 78 = .ok (.if_icmp .ge 15, 3) := by decide +kernel
theorem dX11_rounds_81 : decode cX11_rounds 81 = .ok (.aload_n 0, 1) := by decide +kernel
theorem dX11_rounds_82 : decode cX11_rounds 82 = .ok (.iload_n 1, 1) := by decide +kernel
theorem dX11_rounds_83 : decode cX11_rounds 83 = .ok (.iload 4, 2) := by decide +kernel
theorem dX11_rounds_85 : decode cX11_rounds 85 = .ok (.iconst 1, 1) := by decide +kernel
theorem dX11_rounds_86 : decode cX11_rounds 86 = .ok (.iadd, 1) := by decide +kernel
theorem dX11_rounds_87 : decode cX11_rounds 87 = .ok (.invokevirtual 77, 3) := by decide +kernel
theorem dX11_rounds_90 : decode cX11_rounds 90 = .ok (.goto 4, 3) := by decide +kernel
theorem dX11_rounds_93 : decode cX11_rounds 93 = .ok (.iconst (-1), 1) := by decide +kernel
theorem dX11_rounds_94 : decode cX11_rounds 94 = .ok (.istore 6, 2) := by decide +kernel
theorem dX11_rounds_96 : decode cX11_rounds 96 = .ok (.aload_n 0, 1) := by decide +kernel
theorem dX11_rounds_97 : decode cX11_rounds 97 = .ok (.iload 5, 2) := by decide +kernel
theorem dX11_rounds_99 : decode cX11_rounds 99 = .ok (.iconst 0, 1) := by decide +kernel
theorem dX11_rounds_100 : decode cX11_rounds 100 = .ok (.invokevirtual 24, 3) := by decide +kernel
theorem dX11_rounds_103 : decode cX11_rounds 103 = .ok (.istore 7, 2) := by decide +kernel
theorem dX11_rounds_105 : decode cX11_rounds 105 = .ok (.iload 6, 2) := by decide +kernel
theorem dX11_rounds_107 : decode cX11_rounds 107 = .ok (.ifCond .ge 7, 3) := by decide +kernel
theorem dX11_rounds_110 : decode cX11_rounds 110 = .ok (.iconst (-1), 1) := by decide +kernel
theorem dX11_rounds_111 : decode cX11_rounds 111 = .ok (.goto 10, 3) := by decide +kernel
theorem dX11_rounds_114 : decode cX11_rounds 114 = .ok (.aload_n 0, 1) := by decide +kernel
theorem dX11_rounds_115 : decode cX11_rounds 115 = .ok (.iload 6, 2) := by decide +kernel
theorem dX11_rounds_117 : decode cX11_rounds 117 = .ok (.iconst 0, 1) := by decide +kernel
theorem dX11_rounds_118 : decode cX11_rounds 118 = .ok (.invokevirtual 24, 3) := by decide +kernel
theorem dX11_rounds_121 : decode cX11_rounds 121 = .ok (.istore 8, 2) := by decide +kernel
theorem dX11_rounds_123 : decode cX11_rounds 123 = .ok (.iload 7, 2) := by decide +kernel
theorem dX11_rounds_125 : decode cX11_rounds 125 = .ok (.istore 9, 2) := by decide +kernel
theorem dX11_rounds_127 : decode cX11_rounds 127 = .ok (.iload 8, 2) := by decide +kernel
theorem dX11_rounds_129 : decode cX11_rounds 129 = .ok (.istore 10, 2) := by decide +kernel
theorem dX11_rounds_131 : decode cX11_rounds 131 = .ok (.iconst (-1), 1) := by decide +kernel
theorem dX11_rounds_132 : decode cX11_rounds 132 = .ok (.istore 11, 2) := by decide +kernel
theorem dX11_rounds_134 : decode cX11_rounds 134 = .ok (.iload 8, 2) := by decide +kernel
theorem dX11_rounds_136 : decode cX11_rounds 136 = .ok (.ifCond .lt 57, 3) := by decide +kernel
theorem dX11_rounds_139 : decode cX11_rounds 139 = .ok (.iload 9, 2) := by decide +kernel
theorem dX11_rounds_141 : decode cX11_rounds 141 = .ok (.iload 10, 2) := by decide +kernel
theorem dX11_rounds_143 : decode cX11_rounds 143 = .ok (.if_icmp .eq 50, 3) := by decide +kernel
theorem dX11_rounds_146 : decode cX11_rounds 146 = .ok (.iload 10, 2) := by decide +kernel
theorem dX11_rounds_148 : decode cX11_rounds 148 = .ok (.iload 9, 2) := by decide +kernel
theorem dX11_rounds_150 : decode cX11_rounds 150 = .ok (.if_icmp .le 8, 3) := by decide +kernel
theorem dX11_rounds_153 : decode cX11_rounds 153 = .ok (.iload 10, 2) := by decide +kernel
theorem dX11_rounds_155 : decode cX11_rounds 155 = .ok (.goto 5, 3) := by decide +kernel
theorem dX11_rounds_158 : decode cX11_rounds 158 = .ok (.iload 11, 2) := by decide +kernel
theorem dX11_rounds_160 : decode cX11_rounds 160 = .ok (.istore 11, 2) := by decide +kernel
theorem dX11_rounds_162 : decode cX11_rounds 162 = .ok (.iload 10, 2) := by decide +kernel
theorem dX11_rounds_164 : decode cX11_rounds 164 = .ok (.iload 9, 2) := by decide +kernel
theorem dX11_rounds_166 : decode cX11_rounds 166 = .ok (.if_icmp .le 15, 3) := by decide +kernel
theorem dX11_rounds_169 : decode cX11_rounds 169 = .ok (.aload_n 0, 1) := by decide +kernel
theorem dX11_rounds_170 : decode cX11_rounds 170 = .ok (.iload 10, 2) := by decide +kernel
theorem dX11_rounds_172 : decode cX11_rounds 172 = .ok (.iconst 0, 1) := by decide +kernel
theorem dX11_rounds_173 : decode cX11_rounds 173 = .ok (.invokevirtual 20, 3) := by decide +kernel
theorem dX11_rounds_176 : decode cX11_rounds 176 = .ok (.istore 10, 2) := by decide +kernel
theorem dX11_rounds_178 : decode cX11_rounds 178 = .ok (.goto (-44), 3) := by decide +kernel
theorem dX11_rounds_181 : decode cX11_rounds 181 = .ok (.aload_n 0, 1) := by decide +kernel
theorem dX11_rounds_182 : decode cX11_rounds 182 = .ok (.iload 9, 2) := by decide +kernel
theorem dX11_rounds_184 : decode cX11_rounds 184 = .ok (.iconst 0, 1) := by decide +kernel
theorem dX11_rounds_185 : decode cX11_rounds 185 = .ok (.invokevirtual 20, 3) := by decide +kernel
theorem dX11_rounds_188 : decode cX11_rounds 188 = .ok (.istore 9, 2) := by decide +kernel
theorem dX11_rounds_190 : decode cX11_rounds 190 = .ok (.goto (-56), 3) := by decide +kernel
theorem dX11_rounds_193 : decode cX11_rounds 193 = .ok (.iload 6, 2) := by decide +kernel
theorem dX11_rounds_195 : decode cX11_rounds 195 = .ok (.ifCond .lt 27, 3) := by decide +kernel
theorem dX11_rounds_198 : decode cX11_rounds 198 = .ok (.iload 7, 2) := by decide +kernel
theorem dX11_rounds_200 : decode cX11_rounds 200 = .ok (.iload 8, 2) := by decide +kernel
theorem dX11_rounds_202 : decode cX11_rounds 202 = .ok (.if_icmp .ne 13, 3) := by decide +kernel
theorem dX11_rounds_205 : decode cX11_rounds 205 = .ok (.iload 6, 2) := by decide +kernel
theorem dX11_rounds_207 : decode cX11_rounds 207 = .ok (.iload 5, 2) := by decide +kernel
theorem dX11_rounds_209 : decode cX11_rounds 209 = .ok (.if_icmp .ge 13, 3) := by decide +kernel
theorem dX11_rounds_212 : decode cX11_rounds 212 = .ok (.goto 8, 3) := by decide +kernel
theorem dX11_rounds_215 : decode cX11_rounds 215 = .ok (.iload 11, 2) := by decide +kernel
theorem dX11_rounds_217 : decode cX11_rounds 217 = .ok (.ifCond .ge 5, 3) := by decide +kernel
theorem dX11_rounds_220 : decode cX11_rounds 220 = .ok (.iconst 0, 1) := by decide +kernel
theorem dX11_rounds_221 : decode cX11_rounds 221 = .ok (.ireturn, 1) := by decide +kernel
theorem dX11_rounds_222 : decode cX11_rounds 222 = .ok (.iinc 4 1, 3) := by decide +kernel
theorem dX11_rounds_225 : decode cX11_rounds 225 = .ok (.goto (-202), 3) := by decide +kernel
theorem dX11_rounds_228 : decode cX11_rounds 228 = .ok (.aload_n 0, 1) := by decide +kernel
theorem dX11_rounds_229 : decode cX11_rounds 229 = .ok (.iload_n 1, 1) := by decide +kernel
theorem dX11_rounds_230 : decode cX11_rounds 230 = .ok (.iload_n 2, 1) := by decide +kernel
theorem dX11_rounds_231 : decode cX11_rounds 231 = .ok (.invokevirtual 77, 3) := by decide +kernel
theorem dX11_rounds_234 : decode cX11_rounds 234 = .ok (.bipush (-4), 2) := by decide +kernel
theorem dX11_rounds_236 : decode cX11_rounds 236 = .ok (.if_icmp .eq 5, 3) := by decide +kernel
theorem dX11_rounds_239 : decode cX11_rounds 239 = .ok (.iconst 0, 1) := by decide +kernel
theorem dX11_rounds_240 : decode cX11_rounds 240 = .ok (.ireturn, 1) := by decide +kernel
theorem dX11_rounds_241 : decode cX11_rounds 241 = .ok (.iinc 1 1, 3) := by decide +kernel
theorem dX11_rounds_244 : decode cX11_rounds 244 = .ok (.goto (-242), 3) := by decide +kernel
theorem dX11_rounds_247 : decode cX11_rounds 247 = .ok (.iconst 1, 1) := by decide +kernel
theorem dX11_rounds_248 : decode cX11_rounds 248 = .ok (.ireturn, 1) := by decide +kernel
theorem dX11_goes_0 : decode cX11_goes 0 = .ok (.aload_n 0, 1) := by decide +kernel
theorem dX11_goes_1 : decode cX11_goes 1 = .ok (.iconst 4, 1) := by decide +kernel
theorem dX11_goes_2 : decode cX11_goes 2 = .ok (.invokevirtual 11, 3) := by decide +kernel
theorem dX11_goes_5 : decode cX11_goes 5 = .ok (.istore_n 1, 1) := by decide +kernel
theorem dX11_goes_6 : decode cX11_goes 6 = .ok (.iload_n 1, 1) := by decide +kernel
theorem dX11_goes_7 : decode cX11_goes 7 = .ok (.sipush 999, 3) := by decide +kernel
theorem dX11_goes_10 : decode cX11_goes 10 = .ok (.if_icmp .le 19, 3) := by decide +kernel
theorem dX11_goes_13 : decode cX11_goes 13 = .ok (.aload_n 0, 1) := by decide +kernel
theorem dX11_goes_14 : decode cX11_goes 14 = .ok (.iconst 1, 1) := by decide +kernel
theorem dX11_goes_15 : decode cX11_goes 15 = .ok (.invokevirtual 74, 3) := by decide +kernel
theorem dX11_goes_18 : decode cX11_goes 18 = .ok (.bipush (-3), 2) := by decide +kernel
theorem dX11_goes_20 : decode cX11_goes 20 = .ok (.if_icmp .ne 7, 3) := by decide +kernel
theorem dX11_goes_23 : decode cX11_goes 23 = .ok (.iconst 1, 1) := by decide +kernel
theorem dX11_goes_24 : decode cX11_goes 24 = .ok (.goto 4, 3) := by decide +kernel
theorem dX11_goes_27 : decode cX11_goes 27 = .ok (.iconst 0, 1) := by decide +kernel
theorem dX11_goes_28 : decode cX11_goes 28 = .ok (.ireturn, 1) := by decide +kernel
theorem dX11_goes_29 : decode cX11_goes 29 = .ok (.aload_n 0, 1) := by decide +kernel
theorem dX11_goes_30 : decode cX11_goes 30 = .ok (.iconst 2, 1) := by decide +kernel
theorem dX11_goes_31 : decode cX11_goes 31 = .ok (.invokevirtual 11, 3) := by decide +kernel
theorem dX11_goes_34 : decode cX11_goes 34 = .ok (.istore_n 2, 1) := by decide +kernel
theorem dX11_goes_35 : decode cX11_goes 35 = .ok (.bipush 12, 2) := by decide +kernel
theorem dX11_goes_37 : decode cX11_goes 37 = .ok (.newarray .int, 2) := by decide +kernel
theorem dX11_goes_39 : decode cX11_goes 39 = .ok (.astore_n 3, 1) := by decide +kernel
theorem dX11_goes_40 : decode cX11_goes 40 = .ok (.iconst 0, 1) := by decide +kernel
theorem dX11_goes_41 : decode cX11_goes 41 = .ok (.istore 4, 2) := by decide +kernel
theorem dX11_goes_43 : decode cX11_goes 43 = .ok (.iconst 0, 1) := by decide +kernel
theorem dX11_goes_44 : decode cX11_goes 44 = .ok (.istore 5, 2) := by decide +kernel
theorem dX11_goes_46 : decode cX11_goes 46 = .ok (.iload 5, 2) := by decide +kernel
theorem dX11_goes_48 : decode cX11_goes 48 = .ok (.iload_n 2, 1) := by decide +kernel
theorem dX11_goes_49 : decode cX11_goes 49 = .ok (.if_icmp .ge 99, 3) := by decide +kernel
theorem dX11_goes_52 : decode cX11_goes 52 = .ok (.aload_n 3, 1) := by decide +kernel
theorem dX11_goes_53 : decode cX11_goes 53 = .ok (.iconst 4, 1) := by decide +kernel
theorem dX11_goes_54 : decode cX11_goes 54 = .ok (.iload 5, 2) := by decide +kernel
theorem dX11_goes_56 : decode cX11_goes 56 = .ok (.imul, 1) := by decide +kernel
theorem dX11_goes_57 : decode cX11_goes 57 = .ok (.aload_n 0, 1) := by decide +kernel
theorem dX11_goes_58 : decode cX11_goes 58 = .ok (.iload 5, 2) := by decide +kernel
theorem dX11_goes_60 : decode cX11_goes 60 = .ok (.iload_n 1, 1) := by decide +kernel
theorem dX11_goes_61 : decode cX11_goes 61 = .ok (.iconst 0, 1) := by decide +kernel
theorem dX11_goes_62 : decode cX11_goes 62 = .ok (.invokevirtual 80, 3) := by decide +kernel
theorem dX11_goes_65 : decode cX11_goes 65 = .ok (.aload_n 0, 1) := by decide +kernel
theorem dX11_goes_66 : decode cX11_goes 66 = .ok (.iload 5, 2) := by decide +kernel
theorem dX11_goes_68 : decode cX11_goes 68 = .ok (.iconst 4, 1) := by decide +kernel
theorem dX11_goes_69 : decode cX11_goes 69 = .ok (.invokevirtual 33, 3) := by decide +kernel
theorem dX11_goes_72 : decode cX11_goes 72 = .ok (.iadd, 1) := by decide +kernel
theorem dX11_goes_73 : decode cX11_goes 73 = .ok (.iastore, 1) := by decide +kernel
theorem dX11_goes_74 : decode cX11_goes 74 = .ok (.aload_n 3, 1) := by decide +kernel
theorem dX11_goes_75 : decode cX11_goes 75 = .ok (.iconst 4, 1) := by decide +kernel
theorem dX11_goes_76 : decode cX11_goes 76 = .ok (.iload 5, 2) := by decide +kernel
theorem dX11_goes_78 : decode cX11_goes 78 = .ok (.imul, 1) := by decide +kernel
theorem dX11_goes_79 : decode cX11_goes 79 = .ok (.iconst 1, 1) := by decide +kernel
theorem dX11_goes_80 : decode cX11_goes 80 = .ok (.iadd, 1) := by decide +kernel
theorem dX11_goes_81 : decode cX11_goes 81 = .ok (.aload_n 0, 1) := by decide +kernel
theorem dX11_goes_82 : decode cX11_goes 82 = .ok (.iload 5, 2) := by decide +kernel
theorem dX11_goes_84 : decode cX11_goes 84 = .ok (.iload_n 1, 1) := by decide +kernel
theorem dX11_goes_85 : decode cX11_goes 85 = .ok (.iconst 1, 1) := by decide +kernel
theorem dX11_goes_86 : decode cX11_goes 86 = .ok (.invokevirtual 80, 3) := by decide +kernel
theorem dX11_goes_89 : decode cX11_goes 89 = .ok (.aload_n 0, 1) := by decide +kernel
theorem dX11_goes_90 : decode cX11_goes 90 = .ok (.iload 5, 2) := by decide +kernel
theorem dX11_goes_92 : decode cX11_goes 92 = .ok (.iconst 5, 1) := by decide +kernel
theorem dX11_goes_93 : decode cX11_goes 93 = .ok (.invokevirtual 33, 3) := by decide +kernel
theorem dX11_goes_96 : decode cX11_goes 96 = .ok (.iadd, 1) := by decide +kernel
theorem dX11_goes_97 : decode cX11_goes 97 = .ok (.iastore, 1) := by decide +kernel
theorem dX11_goes_98 : decode cX11_goes 98 = .ok (.aload_n 3, 1) := by decide +kernel
theorem dX11_goes_99 : decode cX11_goes 99 = .ok (.iconst 4, 1) := by decide +kernel
theorem dX11_goes_100 : decode cX11_goes 100 = .ok (.iload 5, 2) := by decide +kernel
theorem dX11_goes_102 : decode cX11_goes 102 = .ok (.imul, 1) := by decide +kernel
theorem dX11_goes_103 : decode cX11_goes 103 = .ok (.iconst 2, 1) := by decide +kernel
theorem dX11_goes_104 : decode cX11_goes 104 = .ok (.iadd, 1) := by decide +kernel
theorem dX11_goes_105 : decode cX11_goes 105 = .ok (.aload_n 0, 1) := by decide +kernel
theorem dX11_goes_106 : decode cX11_goes 106 = .ok (.iload 5, 2) := by decide +kernel
theorem dX11_goes_108 : decode cX11_goes 108 = .ok (.iload_n 1, 1) := by decide +kernel
theorem dX11_goes_109 : decode cX11_goes 109 = .ok (.iconst 3, 1) := by decide +kernel
theorem dX11_goes_110 : decode cX11_goes 110 = .ok (.invokevirtual 80, 3) := by decide +kernel
theorem dX11_goes_113 : decode cX11_goes 113 = .ok (.iastore, 1) := by decide +kernel
theorem dX11_goes_114 : decode cX11_goes 114 = .ok (.aload_n 3, 1) := by decide +kernel
theorem dX11_goes_115 : decode cX11_goes 115 = .ok (.iconst 4, 1) := by decide +kernel
theorem dX11_goes_116 : decode cX11_goes 116 = .ok (.iload 5, 2) := by decide +kernel
theorem dX11_goes_118 : decode cX11_goes 118 = .ok (.imul, 1) := by decide +kernel
theorem dX11_goes_119 : decode cX11_goes 119 = .ok (.iconst 3, 1) := by decide +kernel
theorem dX11_goes_120 : decode cX11_goes 120 = .ok (.iadd, 1) := by decide +kernel
theorem dX11_goes_121 : decode cX11_goes 121 = .ok (.aload_n 0, 1) := by decide +kernel
theorem dX11_goes_122 : decode cX11_goes 122 = .ok (.iload 5, 2) := by decide +kernel
theorem dX11_goes_124 : decode cX11_goes 124 = .ok (.iconst 2, 1) := by decide +kernel
theorem dX11_goes_125 : decode cX11_goes 125 = .ok (.invokevirtual 33, 3) := by decide +kernel
theorem dX11_goes_128 : decode cX11_goes 128 = .ok (.iastore, 1) := by decide +kernel
theorem dX11_goes_129 : decode cX11_goes 129 = .ok (.iload 4, 2) := by decide +kernel
theorem dX11_goes_131 : decode cX11_goes 131 = .ok (.aload_n 0, 1) := by decide +kernel
theorem dX11_goes_132 : decode cX11_goes 132 = .ok (.iload 5, 2) := by decide +kernel
theorem dX11_goes_134 : decode cX11_goes 134 = .ok (.iload_n 1, 1) := by decide +kernel
theorem dX11_goes_135 : decode cX11_goes 135 = .ok (.iconst 2, 1) := by decide +kernel
theorem dX11_goes_136 : decode cX11_goes 136 = .ok (.invokevirtual 80, 3) := by decide +kernel
theorem dX11_goes_139 : decode cX11_goes 139 = .ok (.iadd, 1) := by decide +kernel
theorem dX11_goes_140 : decode cX11_goes 140 = .ok (.istore 4, 2) := by decide +kernel
theorem dX11_goes_142 : decode cX11_goes 142 = .ok (.iinc 5 1, 3) := by decide +kernel
theorem dX11_goes_145 : decode cX11_goes 145 = .ok (.goto (-99), 3) := by decide +kernel
theorem dX11_goes_148 : decode cX11_goes 148 = .ok (.aload_n 0, 1) := by decide +kernel
theorem dX11_goes_149 : decode cX11_goes 149 = .ok (.iconst 1, 1) := by decide +kernel
theorem dX11_goes_150 : decode cX11_goes 150 = .ok (.invokevirtual 17, 3) := by decide +kernel
theorem dX11_goes_153 : decode cX11_goes 153 = .ok (.istore 5, 2) := by decide +kernel
theorem dX11_goes_155 : decode cX11_goes 155 = .ok (.aload_n 0, 1) := by decide +kernel
theorem dX11_goes_156 : decode cX11_goes 156 = .ok (.iconst 3, 1) := by decide +kernel
theorem dX11_goes_157 : decode cX11_goes 157 = .ok (.invokevirtual 17, 3) := by decide +kernel
theorem dX11_goes_160 : decode cX11_goes 160 = .ok (.istore 6, 2) := by decide +kernel
theorem dX11_goes_162 : decode cX11_goes 162 = .ok (.aload_n 0, 1) := by decide +kernel
theorem dX11_goes_163 : decode cX11_goes 163 = .ok (.iconst 1, 1) := by decide +kernel
theorem dX11_goes_164 : decode cX11_goes 164 = .ok (.invokevirtual 74, 3) := by decide +kernel
theorem dX11_goes_167 : decode cX11_goes 167 = .ok (.istore 7, 2) := by decide +kernel
theorem dX11_goes_169 : decode cX11_goes 169 = .ok (.iload 7, 2) := by decide +kernel
theorem dX11_goes_171 : decode cX11_goes 171 = .ok (.aload_n 0, 1) := by decide +kernel
theorem dX11_goes_172 : decode cX11_goes 172 = .ok (.iconst 1, 1) := by decide +kernel
theorem dX11_goes_173 : decode cX11_goes 173 = .ok (.invokevirtual 17, 3) := by decide +kernel
theorem dX11_goes_176 : decode cX11_goes 176 = .ok (.iload 5, 2) := by decide +kernel
theorem dX11_goes_178 : decode cX11_goes 178 = .ok (.isub, 1) := by decide +kernel
theorem dX11_goes_179 : decode cX11_goes 179 = .ok (.if_icmp .ne 30, 3) := by decide +kernel
theorem dX11_goes_182 : decode cX11_goes 182 = .ok (.iload 7, 2) := by decide +kernel
theorem dX11_goes_184 : decode cX11_goes 184 = .ok (.aload_n 0, 1) := by decide +kernel
theorem dX11_goes_185 : decode cX11_goes 185 = .ok (.iconst 3, 1) := by decide +kernel
theorem dX11_goes_186 : decode cX11_goes 186 = .ok (.invokevirtual 17, 3) := by decide +kernel
theorem dX11_goes_189 : decode cX11_goes 189 = .ok (.iadd, 1) := by decide +kernel
theorem dX11_goes_190 : decode cX11_goes 190 = .ok (.iload 6, 2) := by decide +kernel
theorem dX11_goes_192 : decode cX11_goes 192 = .ok (.isub, 1) := by decide +kernel
theorem dX11_goes_193 : decode cX11_goes 193 = .ok (.iload 4, 2) := by decide +kernel
theorem dX11_goes_195 : decode cX11_goes 195 = .ok (.if_icmp .ne 14, 3) := by decide +kernel
theorem dX11_goes_198 : decode cX11_goes 198 = .ok (.aload_n 0, 1) := by decide +kernel
theorem dX11_goes_199 : decode cX11_goes 199 = .ok (.iconst 4, 1) := by decide +kernel
theorem dX11_goes_200 : decode cX11_goes 200 = .ok (.invokevirtual 11, 3) := by decide +kernel
theorem dX11_goes_203 : decode cX11_goes 203 = .ok (.iload_n 1, 1) := by decide +kernel
theorem dX11_goes_204 : decode cX11_goes 204 = .ok (.iconst 1, 1) := by decide +kernel
theorem dX11_goes_205 : decode cX11_goes 205 = .ok (.iadd, 1) := by decide +kernel
theorem dX11_goes_206 : decode cX11_goes 206 = .ok (.if_icmp .eq 5, 3) := by decide +kernel
theorem dX11_goes_209 : decode cX11_goes 209 = .ok (.iconst 0, 1) := by decide +kernel
