theorem dL_isTold_99 : decode cL_isTold 99 = .ok (.iload 9, 2) := by decide +kernel
theorem dL_isTold_101 : decode cL_isTold 101 = .ok (.imul, 1) := by decide +kernel
theorem dL_isTold_102 : decode cL_isTold 102 = .ok (.iconst 1, 1) := by decide +kernel
theorem dL_isTold_103 : decode cL_isTold 103 = .ok (.iadd, 1) := by decide +kernel
theorem dL_isTold_104 : decode cL_isTold 104 = .ok (.iaload, 1) := by decide +kernel
theorem dL_isTold_105 : decode cL_isTold 105 = .ok (.iadd, 1) := by decide +kernel
theorem dL_isTold_106 : decode cL_isTold 106 = .ok (.istore 7, 2) := by decide +kernel
theorem dL_isTold_108 : decode cL_isTold 108 = .ok (.aload_n 0, 1) := by decide +kernel
theorem dL_isTold_109 : decode cL_isTold 109 = .ok (.iload 9, 2) := by decide +kernel
theorem dL_isTold_111 : decode cL_isTold 111 = .ok (.invokevirtual 130, 3) := by decide +kernel
theorem dL_isTold_114 : decode cL_isTold 114 = .ok (.aload 5, 2) := by decide +kernel
theorem dL_isTold_116 : decode cL_isTold 116 = .ok (.iconst 5, 1) := by decide +kernel
theorem dL_isTold_117 : decode cL_isTold 117 = .ok (.iload 9, 2) := by decide +kernel
theorem dL_isTold_119 : decode cL_isTold 119 = .ok (.imul, 1) := by decide +kernel
theorem dL_isTold_120 : decode cL_isTold 120 = .ok (.iconst 1, 1) := by decide +kernel
theorem dL_isTold_121 : decode cL_isTold 121 = .ok (.iadd, 1) := by decide +kernel
theorem dL_isTold_122 : decode cL_isTold 122 = .ok (.iaload, 1) := by decide +kernel
theorem dL_isTold_123 : decode cL_isTold 123 = .ok (.iconst 1, 1) := by decide +kernel
theorem dL_isTold_124 : decode cL_isTold 124 = .ok (.if_icmp .ne 7, 3) := by decide +kernel
theorem dL_isTold_127 : decode cL_isTold 127 = .ok (.iconst 1, 1) := by decide +kernel
theorem dL_isTold_128 : decode cL_isTold 128 = .ok (.goto 4, 3) := by decide +kernel
theorem dL_isTold_131 : decode cL_isTold 131 = .ok (.iconst 0, 1) := by decide +kernel
theorem dL_isTold_132 : decode cL_isTold 132 = .ok (.if_icmp .ne 7, 3) := by decide +kernel
theorem dL_isTold_135 : decode cL_isTold 135 = .ok (.iconst 1, 1) := by decide +kernel
theorem dL_isTold_136 : decode cL_isTold 136 = .ok (.goto 4, 3) := by decide +kernel
theorem dL_isTold_139 : decode cL_isTold 139 = .ok (.iconst 0, 1) := by decide +kernel
theorem dL_isTold_140 : decode cL_isTold 140 = .ok (.istore 8, 2) := by decide +kernel
theorem dL_isTold_142 : decode cL_isTold 142 = .ok (.iinc 9 1, 3) := by decide +kernel
theorem dL_isTold_145 : decode cL_isTold 145 = .ok (.goto (-65), 3) := by decide +kernel
theorem dL_isTold_148 : decode cL_isTold 148 = .ok (.iconst 0, 1) := by decide +kernel
theorem dL_isTold_149 : decode cL_isTold 149 = .ok (.istore 9, 2) := by decide +kernel
theorem dL_isTold_151 : decode cL_isTold 151 = .ok (.iload 9, 2) := by decide +kernel
theorem dL_isTold_153 : decode cL_isTold 153 = .ok (.aload_n 1, 1) := by decide +kernel
theorem dL_isTold_154 : decode cL_isTold 154 = .ok (.iconst 0, 1) := by decide +kernel
theorem dL_isTold_155 : decode cL_isTold 155 = .ok (.iaload, 1) := by decide +kernel
theorem dL_isTold_156 : decode cL_isTold 156 = .ok (.if_icmp .ge 142, 3) := by decide +kernel
theorem dL_isTold_159 : decode cL_isTold 159 = .ok (.iload 8, 2) := by decide +kernel
theorem dL_isTold_161 : decode cL_isTold 161 = .ok (.ifCond .eq 137, 3) := by decide +kernel
theorem dL_isTold_164 : decode cL_isTold 164 = .ok (.aload_n 0, 1) := by decide +kernel
theorem dL_isTold_165 : decode cL_isTold 165 = .ok (.iload 9, 2) := by decide +kernel
theorem dL_isTold_167 : decode cL_isTold 167 = .ok (.invokevirtual 134, 3) := by decide +kernel
theorem dL_isTold_170 : decode cL_isTold 170 = .ok (.aload 4, 2) := by decide +kernel
theorem dL_isTold_172 : decode cL_isTold 172 = .ok (.aload_n 1, 1) := by decide +kernel
theorem dL_isTold_173 : decode cL_isTold 173 = .ok (.iload 9, 2) := by decide +kernel
theorem dL_isTold_175 : decode cL_isTold 175 = .ok (.invokestatic 78, 3) := by decide +kernel
theorem dL_isTold_178 : decode cL_isTold 178 = .ok (.if_icmp .ne 7, 3) := by decide +kernel
theorem dL_isTold_181 : decode cL_isTold 181 = .ok (.iconst 1, 1) := by decide +kernel
theorem dL_isTold_182 : decode cL_isTold 182 = .ok (.goto 4, 3) := by decide +kernel
theorem dL_isTold_185 : decode cL_isTold 185 = .ok (.iconst 0, 1) := by decide +kernel
theorem dL_isTold_186 : decode cL_isTold 186 = .ok (.istore 8, 2) := by decide +kernel
theorem dL_isTold_188 : decode cL_isTold 188 = .ok (.iconst 0, 1) := by decide +kernel
theorem dL_isTold_189 : decode cL_isTold 189 = .ok (.istore 10, 2) := by decide +kernel
theorem dL_isTold_191 : decode cL_isTold 191 = .ok (.iload 10, 2) := by decide +kernel
theorem dL_isTold_193 : decode cL_isTold 193 = .ok (.aload_n 1, 1) := by decide +kernel
theorem dL_isTold_194 : decode cL_isTold 194 = .ok (.iconst 1, 1) := by decide +kernel
theorem dL_isTold_195 : decode cL_isTold 195 = .ok (.iaload, 1) := by decide +kernel
theorem dL_isTold_196 : decode cL_isTold 196 = .ok (.if_icmp .ge 96, 3) := by decide +kernel
theorem dL_isTold_199 : decode cL_isTold 199 = .ok (.iload 8, 2) := by decide +kernel
theorem dL_isTold_201 : decode cL_isTold 201 = .ok (.ifCond .eq 91, 3) := by decide +kernel
theorem dL_isTold_204 : decode cL_isTold 204 = .ok (.iload 6, 2) := by decide +kernel
theorem dL_isTold_206 : decode cL_isTold 206 = .ok (.iconst 3, 1) := by decide +kernel
theorem dL_isTold_207 : decode cL_isTold 207 = .ok (.irem, 1) := by decide +kernel
theorem dL_isTold_208 : decode cL_isTold 208 = .ok (.ifCond .ne 9, 3) := by decide +kernel
theorem dL_isTold_211 : decode cL_isTold 211 = .ok (.aload_n 1, 1) := by decide +kernel
theorem dL_isTold_212 : decode cL_isTold 212 = .ok (.iconst 2, 1) := by decide +kernel
theorem dL_isTold_213 : decode cL_isTold 213 = .ok (.iaload, 1) := by decide +kernel
theorem dL_isTold_214 : decode cL_isTold 214 = .ok (.goto 35, 3) := by decide +kernel
theorem dL_isTold_217 : decode cL_isTold 217 = .ok (.iload 6, 2) := by decide +kernel
theorem dL_isTold_219 : decode cL_isTold 219 = .ok (.iconst 3, 1) := by decide +kernel
theorem dL_isTold_220 : decode cL_isTold 220 = .ok (.irem, 1) := by decide +kernel
theorem dL_isTold_221 : decode cL_isTold 221 = .ok (.iconst 1, 1) := by decide +kernel
theorem dL_isTold_222 : decode cL_isTold 222 = .ok (.if_icmp .ne 17, 3) := by decide +kernel
theorem dL_isTold_225 : decode cL_isTold 225 = .ok (.aload_n 1, 1) := by decide +kernel
theorem dL_isTold_226 : decode cL_isTold 226 = .ok (.iconst 2, 1) := by decide +kernel
theorem dL_isTold_227 : decode cL_isTold 227 = .ok (.iaload, 1) := by decide +kernel
theorem dL_isTold_228 : decode cL_isTold 228 = .ok (.iload 6, 2) := by decide +kernel
theorem dL_isTold_230 : decode cL_isTold 230 = .ok (.iconst 3, 1) := by decide +kernel
theorem dL_isTold_231 : decode cL_isTold 231 = .ok (.idiv, 1) := by decide +kernel
theorem dL_isTold_232 : decode cL_isTold 232 = .ok (.bipush 50, 2) := by decide +kernel
theorem dL_isTold_234 : decode cL_isTold 234 = .ok (.irem, 1) := by decide +kernel
theorem dL_isTold_235 : decode cL_isTold 235 = .ok (.iadd, 1) := by decide +kernel
theorem dL_isTold_236 : decode cL_isTold 236 = .ok (.goto 13, 3) := by decide +kernel
theorem dL_isTold_239 : decode cL_isTold 239 = .ok (.iload 6, 2) := by decide +kernel
theorem dL_isTold_241 : decode cL_isTold 241 = .ok (.iconst 3, 1) := by decide +kernel
theorem dL_isTold_242 : decode cL_isTold 242 = .ok (.idiv, 1) := by decide +kernel
theorem dL_isTold_243 : decode cL_isTold 243 = .ok (.aload_n 1, 1) := by decide +kernel
theorem dL_isTold_244 : decode cL_isTold 244 = .ok (.iconst 2, 1) := by decide +kernel
theorem dL_isTold_245 : decode cL_isTold 245 = .ok (.iaload, 1) := by decide +kernel
theorem dL_isTold_246 : decode cL_isTold 246 = .ok (.iconst 1, 1) := by decide +kernel
theorem dL_isTold_247 : decode cL_isTold 247 = .ok (.iadd, 1) := by decide +kernel
theorem dL_isTold_248 : decode cL_isTold 248 = .ok (.irem, 1) := by decide +kernel
theorem dL_isTold_249 : decode cL_isTold 249 = .ok (.istore 11, 2) := by decide +kernel
theorem dL_isTold_251 : decode cL_isTold 251 = .ok (.aload_n 0, 1) := by decide +kernel
theorem dL_isTold_252 : decode cL_isTold 252 = .ok (.iload 9, 2) := by decide +kernel
theorem dL_isTold_254 : decode cL_isTold 254 = .ok (.iload 10, 2) := by decide +kernel
theorem dL_isTold_256 : decode cL_isTold 256 = .ok (.iload 11, 2) := by decide +kernel
theorem dL_isTold_258 : decode cL_isTold 258 = .ok (.invokevirtual 136, 3) := by decide +kernel
theorem dL_isTold_261 : decode cL_isTold 261 = .ok (.aload_n 2, 1) := by decide +kernel
theorem dL_isTold_262 : decode cL_isTold 262 = .ok (.aload_n 1, 1) := by decide +kernel
theorem dL_isTold_263 : decode cL_isTold 263 = .ok (.bipush 8, 2) := by decide +kernel
theorem dL_isTold_265 : decode cL_isTold 265 = .ok (.iload 9, 2) := by decide +kernel
theorem dL_isTold_267 : decode cL_isTold 267 = .ok (.imul, 1) := by decide +kernel
theorem dL_isTold_268 : decode cL_isTold 268 = .ok (.iload 10, 2) := by decide +kernel
theorem dL_isTold_270 : decode cL_isTold 270 = .ok (.iadd, 1) := by decide +kernel
theorem dL_isTold_271 : decode cL_isTold 271 = .ok (.iload 11, 2) := by decide +kernel
theorem dL_isTold_273 : decode cL_isTold 273 = .ok (.invokestatic 32, 3) := by decide +kernel
theorem dL_isTold_276 : decode cL_isTold 276 = .ok (.if_icmp .ne 7, 3) := by decide +kernel
theorem dL_isTold_279 : decode cL_isTold 279 = .ok (.iconst 1, 1) := by decide +kernel
theorem dL_isTold_280 : decode cL_isTold 280 = .ok (.goto 4, 3) := by decide +kernel
theorem dL_isTold_283 : decode cL_isTold 283 = .ok (.iconst 0, 1) := by decide +kernel
theorem dL_isTold_284 : decode cL_isTold 284 = .ok (.istore 8, 2) := by decide +kernel
theorem dL_isTold_286 : decode cL_isTold 286 = .ok (.iinc 10 1, 3) := by decide +kernel
theorem dL_isTold_289 : decode cL_isTold 289 = .ok (.goto (-98), 3) := by decide +kernel
theorem dL_isTold_292 : decode cL_isTold 292 = .ok (.iinc 9 1, 3) := by decide +kernel
theorem dL_isTold_295 : decode cL_isTold 295 = .ok (.goto (-144), 3) := by decide +kernel
theorem dL_isTold_298 : decode cL_isTold 298 = .ok (.iload 8, 2) := by decide +kernel
theorem dL_isTold_300 : decode cL_isTold 300 = .ok (.ifCond .eq 16, 3) := by decide +kernel
theorem dL_isTold_303 : decode cL_isTold 303 = .ok (.aload_n 0, 1) := by decide +kernel
theorem dL_isTold_304 : decode cL_isTold 304 = .ok (.invokevirtual 140, 3) := by decide +kernel
theorem dL_isTold_307 : decode cL_isTold 307 = .ok (.iload 7, 2) := by decide +kernel
theorem dL_isTold_309 : decode cL_isTold 309 = .ok (.if_icmp .ne 7, 3) := by decide +kernel
theorem dL_isTold_312 : decode cL_isTold 312 = .ok (.iconst 1, 1) := by decide +kernel
theorem dL_isTold_313 : decode cL_isTold 313 = .ok (.goto 4, 3) := by decide +kernel
theorem dL_isTold_316 : decode cL_isTold 316 = .ok (.iconst 0, 1) := by decide +kernel
theorem dL_isTold_317 : decode cL_isTold 317 = .ok (.ireturn, 1) := by decide +kernel
theorem dL_acts_0 : decode cL_acts 0 = .ok (.iload 8, 2) := by decide +kernel
theorem dL_acts_2 : decode cL_acts 2 = .ok (.iconst 4, 1) := by decide +kernel
theorem dL_acts_3 : decode cL_acts 3 = .ok (.if_icmp .ge 432, 3) := by decide +kernel
theorem dL_acts_6 : decode cL_acts 6 = .ok (.iload 8, 2) := by decide +kernel
theorem dL_acts_8 : decode cL_acts 8 = .ok (.ifCond .ne 24, 3) := by decide +kernel
theorem dL_acts_11 : decode cL_acts 11 = .ok (.iload 9, 2) := by decide +kernel
theorem dL_acts_13 : decode cL_acts 13 = .ok (.iconst 5, 1) := by decide +kernel
theorem dL_acts_14 : decode cL_acts 14 = .ok (.irem, 1) := by decide +kernel
theorem dL_acts_15 : decode cL_acts 15 = .ok (.ifCond .ne 17, 3) := by decide +kernel
theorem dL_acts_18 : decode cL_acts 18 = .ok (.aload_n 3, 1) := by decide +kernel
theorem dL_acts_19 : decode cL_acts 19 = .ok (.iconst 2, 1) := by decide +kernel
theorem dL_acts_20 : decode cL_acts 20 = .ok (.iaload, 1) := by decide +kernel
theorem dL_acts_21 : decode cL_acts 21 = .ok (.ldc 143, 2) := by decide +kernel
theorem dL_acts_23 : decode cL_acts 23 = .ok (.if_icmp .ge 9, 3) := by decide +kernel
theorem dL_acts_26 : decode cL_acts 26 = .ok (.sipush 1440, 3) := by decide +kernel
theorem dL_acts_29 : decode cL_acts 29 = .ok (.goto 23, 3) := by decide +kernel
theorem dL_acts_32 : decode cL_acts 32 = .ok (.iconst 1, 1) := by decide +kernel
theorem dL_acts_33 : decode cL_acts 33 = .ok (.iload 9, 2) := by decide +kernel
theorem dL_acts_35 : decode cL_acts 35 = .ok (.iconst 5, 1) := by decide +kernel
theorem dL_acts_36 : decode cL_acts 36 = .ok (.idiv, 1) := by decide +kernel
theorem dL_acts_37 : decode cL_acts 37 = .ok (.iload 8, 2) := by decide +kernel
theorem dL_acts_39 : decode cL_acts 39 = .ok (.iconst 1, 1) := by decide +kernel
theorem dL_acts_40 : decode cL_acts 40 = .ok (.if_icmp .ne 8, 3) := by decide +kernel
theorem dL_acts_43 : decode cL_acts 43 = .ok (.bipush 40, 2) := by decide +kernel
theorem dL_acts_45 : decode cL_acts 45 = .ok (.goto 5, 3) := by decide +kernel
theorem dL_acts_48 : decode cL_acts 48 = .ok (.bipush 12, 2) := by decide +kernel
theorem dL_acts_50 : decode cL_acts 50 = .ok (.irem, 1) := by decide +kernel
theorem dL_acts_51 : decode cL_acts 51 = .ok (.iadd, 1) := by decide +kernel
theorem dL_acts_52 : decode cL_acts 52 = .ok (.istore 10, 2) := by decide +kernel
theorem dL_acts_54 : decode cL_acts 54 = .ok (.iconst 0, 1) := by decide +kernel
theorem dL_acts_55 : decode cL_acts 55 = .ok (.istore 11, 2) := by decide +kernel
theorem dL_acts_57 : decode cL_acts 57 = .ok (.iconst 0, 1) := by decide +kernel
theorem dL_acts_58 : decode cL_acts 58 = .ok (.istore 12, 2) := by decide +kernel
theorem dL_acts_60 : decode cL_acts 60 = .ok (.iload 12, 2) := by decide +kernel
theorem dL_acts_62 : decode cL_acts 62 = .ok (.iload 10, 2) := by decide +kernel
theorem dL_acts_64 : decode cL_acts 64 = .ok (.if_icmp .ge 164, 3) := by decide +kernel
theorem dL_acts_67 : decode cL_acts 67 = .ok (.aload_n 3, 1) := by decide +kernel
theorem dL_acts_68 : decode cL_acts 68 = .ok (.iconst 2, 1) := by decide +kernel
theorem dL_acts_69 : decode cL_acts 69 = .ok (.dup2, 1) := by decide +kernel
theorem dL_acts_70 : decode cL_acts 70 = .ok (.iaload, 1) := by decide +kernel
theorem dL_acts_71 : decode cL_acts 71 = .ok (.iconst 1, 1) := by decide +kernel
theorem dL_acts_72 : decode cL_acts 72 = .ok (.iadd, 1) := by decide +kernel
theorem dL_acts_73 : decode cL_acts 73 = .ok (.iastore, 1) := by decide +kernel
theorem dL_acts_74 : decode cL_acts 74 = .ok (.iconst 0, 1) := by decide +kernel
theorem dL_acts_75 : decode cL_acts 75 = .ok (.istore 13, 2) := by decide +kernel
theorem dL_acts_77 : decode cL_acts 77 = .ok (.iload 13, 2) := by decide +kernel
theorem dL_acts_79 : decode cL_acts 79 = .ok (.aload_n 3, 1) := by decide +kernel
theorem dL_acts_80 : decode cL_acts 80 = .ok (.bipush 6, 2) := by decide +kernel
theorem dL_acts_82 : decode cL_acts 82 = .ok (.iaload, 1) := by decide +kernel
theorem dL_acts_83 : decode cL_acts 83 = .ok (.if_icmp .ge 139, 3) := by decide +kernel
theorem dL_acts_86 : decode cL_acts 86 = .ok (.aload 7, 2) := by decide +kernel
theorem dL_acts_88 : decode cL_acts 88 = .ok (.iconst 5, 1) := by decide +kernel
theorem dL_acts_89 : decode cL_acts 89 = .ok (.iload 13, 2) := by decide +kernel
theorem dL_acts_91 : decode cL_acts 91 = .ok (.imul, 1) := by decide +kernel
theorem dL_acts_92 : decode cL_acts 92 = .ok (.iconst 1, 1) := by decide +kernel
theorem dL_acts_93 : decode cL_acts 93 = .ok (.iadd, 1) := by decide +kernel
theorem dL_acts_94 : decode cL_acts 94 = .ok (.iaload, 1) := by decide +kernel
theorem dL_acts_95 : decode cL_acts 95 = .ok (.iconst 1, 1) := by decide +kernel
theorem dL_acts_96 : decode cL_acts 96 = .ok (.if_icmp .ne 44, 3) := by decide +kernel
theorem dL_acts_99 : decode cL_acts 99 = .ok (.aload_n 3, 1) := by decide +kernel
theorem dL_acts_100 : decode cL_acts 100 = .ok (.iconst 2, 1) := by decide +kernel
theorem dL_acts_101 : decode cL_acts 101 = .ok (.iaload, 1) := by decide +kernel
theorem dL_acts_102 : decode cL_acts 102 = .ok (.aload 7, 2) := by decide +kernel
theorem dL_acts_104 : decode cL_acts 104 = .ok (.iconst 5, 1) := by decide +kernel
theorem dL_acts_105 : decode cL_acts 105 = .ok (.iload 13, 2) := by decide +kernel
theorem dL_acts_107 : decode cL_acts 107 = .ok (.imul, 1) := by decide +kernel
theorem dL_acts_108 : decode cL_acts 108 = .ok (.iconst 2, 1) := by decide +kernel
theorem dL_acts_109 : decode cL_acts 109 = .ok (.iadd, 1) := by decide +kernel
theorem dL_acts_110 : decode cL_acts 110 = .ok (.iaload, 1) := by decide +kernel
theorem dL_acts_111 : decode cL_acts 111 = .ok (.bipush 15, 2) := by decide +kernel
theorem dL_acts_113 : decode cL_acts 113 = .ok (.iadd, 1) := by decide +kernel
theorem dL_acts_114 : decode cL_acts 114 = .ok (.if_icmp .ge 22, 3) := by decide +kernel
theorem dL_acts_117 : decode cL_acts 117 = .ok (.aload 4, 2) := by decide +kernel
theorem dL_acts_119 : decode cL_acts 119 = .ok (.aload_n 3, 1) := by decide +kernel
theorem dL_acts_120 : decode cL_acts 120 = .ok (.aload 7, 2) := by decide +kernel
theorem dL_acts_122 : decode cL_acts 122 = .ok (.iconst 5, 1) := by decide +kernel
theorem dL_acts_123 : decode cL_acts 123 = .ok (.iload 13, 2) := by decide +kernel
theorem dL_acts_125 : decode cL_acts 125 = .ok (.imul, 1) := by decide +kernel
theorem dL_acts_126 : decode cL_acts 126 = .ok (.iaload, 1) := by decide +kernel
theorem dL_acts_127 : decode cL_acts 127 = .ok (.aload_n 3, 1) := by decide +kernel
theorem dL_acts_128 : decode cL_acts 128 = .ok (.iconst 2, 1) := by decide +kernel
theorem dL_acts_129 : decode cL_acts 129 = .ok (.iaload, 1) := by decide +kernel
theorem dL_acts_130 : decode cL_acts 130 = .ok (.invokestatic 32, 3) := by decide +kernel
theorem dL_acts_133 : decode cL_acts 133 = .ok (.ifCond .ne 7, 3) := by decide +kernel
theorem dL_acts_136 : decode cL_acts 136 = .ok (.iconst 1, 1) := by decide +kernel
theorem dL_acts_137 : decode cL_acts 137 = .ok (.goto 4, 3) := by decide +kernel
theorem dL_acts_140 : decode cL_acts 140 = .ok (.iconst 0, 1) := by decide +kernel
theorem dL_acts_141 : decode cL_acts 141 = .ok (.istore 14, 2) := by decide +kernel
theorem dL_acts_143 : decode cL_acts 143 = .ok (.aload 7, 2) := by decide +kernel
theorem dL_acts_145 : decode cL_acts 145 = .ok (.iconst 5, 1) := by decide +kernel
theorem dL_acts_146 : decode cL_acts 146 = .ok (.iload 13, 2) := by decide +kernel
theorem dL_acts_148 : decode cL_acts 148 = .ok (.imul, 1) := by decide +kernel
theorem dL_acts_149 : decode cL_acts 149 = .ok (.iconst 1, 1) := by decide +kernel
theorem dL_acts_150 : decode cL_acts 150 = .ok (.iadd, 1) := by decide +kernel
theorem dL_acts_151 : decode cL_acts 151 = .ok (.iload 14, 2) := by decide +kernel
theorem dL_acts_153 : decode cL_acts 153 = .ok (.ifCond .eq 11, 3) := by decide +kernel
theorem dL_acts_156 : decode cL_acts 156 = .ok (.iconst 2, 1) := by decide +kernel
theorem dL_acts_157 : decode cL_acts 157 = .ok (.aload_n 3, 1) := by decide +kernel
theorem dL_acts_158 : decode cL_acts 158 = .ok (.iconst 2, 1) := by decide +kernel
theorem dL_acts_159 : decode cL_acts 159 = .ok (.iaload, 1) := by decide +kernel
theorem dL_acts_160 : decode cL_acts 160 = .ok (.iadd, 1) := by decide +kernel
theorem dL_acts_161 : decode cL_acts 161 = .ok (.goto 12, 3) := by decide +kernel
theorem dL_acts_164 : decode cL_acts 164 = .ok (.aload 7, 2) := by decide +kernel
theorem dL_acts_166 : decode cL_acts 166 = .ok (.iconst 5, 1) := by decide +kernel
theorem dL_acts_167 : decode cL_acts 167 = .ok (.iload 13, 2) := by decide +kernel
theorem dL_acts_169 : decode cL_acts 169 = .ok (.imul, 1) := by decide +kernel
theorem dL_acts_170 : decode cL_acts 170 = .ok (.iconst 1, 1) := by decide +kernel
theorem dL_acts_171 : decode cL_acts 171 = .ok (.iadd, 1) := by decide +kernel
theorem dL_acts_172 : decode cL_acts 172 = .ok (.iaload, 1) := by decide +kernel
theorem dL_acts_173 : decode cL_acts 173 = .ok (.iastore, 1) := by decide +kernel
theorem dL_acts_174 : decode cL_acts 174 = .ok (.aload 7, 2) := by decide +kernel
theorem dL_acts_176 : decode cL_acts 176 = .ok (.iconst 5, 1) := by decide +kernel
theorem dL_acts_177 : decode cL_acts 177 = .ok (.iload 13, 2) := by decide +kernel
theorem dL_acts_179 : decode cL_acts 179 = .ok (.imul, 1) := by decide +kernel
theorem dL_acts_180 : decode cL_acts 180 = .ok (.iconst 3, 1) := by decide +kernel
theorem dL_acts_181 : decode cL_acts 181 = .ok (.iadd, 1) := by decide +kernel
theorem dL_acts_182 : decode cL_acts 182 = .ok (.iload 14, 2) := by decide +kernel
theorem dL_acts_184 : decode cL_acts 184 = .ok (.ifCond .eq 7, 3) := by decide +kernel
theorem dL_acts_187 : decode cL_acts 187 = .ok (.iconst 0, 1) := by decide +kernel
theorem dL_acts_188 : decode cL_acts 188 = .ok (.goto 12, 3) := by decide +kernel
theorem dL_acts_191 : decode cL_acts 191 = .ok (.aload 7, 2) := by decide +kernel
theorem dL_acts_193 : decode cL_acts 193 = .ok (.iconst 5, 1) := by decide +kernel
theorem dL_acts_194 : decode cL_acts 194 = .ok (.iload 13, 2) := by decide +kernel
theorem dL_acts_196 : decode cL_acts 196 = .ok (.imul, 1) := by decide +kernel
theorem dL_acts_197 : decode cL_acts 197 = .ok (.iconst 3, 1) := by decide +kernel
theorem dL_acts_198 : decode cL_acts 198 = .ok (.iadd, 1) := by decide +kernel
theorem dL_acts_199 : decode cL_acts 199 = .ok (.iaload, 1) := by decide +kernel
theorem dL_acts_200 : decode cL_acts 200 = .ok (.iastore, 1) := by decide +kernel
theorem dL_acts_201 : decode cL_acts 201 = .ok (.iload 11, 2) := by decide +kernel
theorem dL_acts_203 : decode cL_acts 203 = .ok (.iload 14, 2) := by decide +kernel
theorem dL_acts_205 : decode cL_acts 205 = .ok (.ifCond .eq 7, 3) := by decide +kernel
theorem dL_acts_208 : decode cL_acts 208 = .ok (.iconst 1, 1) := by decide +kernel
theorem dL_acts_209 : decode cL_acts 209 = .ok (.goto 4, 3) := by decide +kernel
theorem dL_acts_212 : decode cL_acts 212 = .ok (.iconst 0, 1) := by decide +kernel
theorem dL_acts_213 : decode cL_acts 213 = .ok (.iadd, 1) := by decide +kernel
theorem dL_acts_214 : decode cL_acts 214 = .ok (.istore 11, 2) := by decide +kernel
theorem dL_acts_216 : decode cL_acts 216 = .ok (.iinc 13 1, 3) := by decide +kernel
theorem dL_acts_219 : decode cL_acts 219 = .ok (.goto (-142), 3) := by decide +kernel
theorem dL_acts_222 : decode cL_acts 222 = .ok (.iinc 12 1, 3) := by decide +kernel
theorem dL_acts_225 : decode cL_acts 225 = .ok (.goto (-165), 3) := by decide +kernel
theorem dL_acts_228 : decode cL_acts 228 = .ok (.aload_n 0, 1) := by decide +kernel
theorem dL_acts_229 : decode cL_acts 229 = .ok (.iload 10, 2) := by decide +kernel
theorem dL_acts_231 : decode cL_acts 231 = .ok (.invokevirtual 144, 3) := by decide +kernel
theorem dL_acts_234 : decode cL_acts 234 = .ok (.iload 11, 2) := by decide +kernel
theorem dL_acts_236 : decode cL_acts 236 = .ok (.if_icmp .ne 7, 3) := by decide +kernel
theorem dL_acts_239 : decode cL_acts 239 = .ok (.iconst 1, 1) := by decide +kernel
theorem dL_acts_240 : decode cL_acts 240 = .ok (.goto 4, 3) := by decide +kernel
theorem dL_acts_243 : decode cL_acts 243 = .ok (.iconst 0, 1) := by decide +kernel
theorem dL_acts_244 : decode cL_acts 244 = .ok (.istore 12, 2) := by decide +kernel
theorem dL_acts_246 : decode cL_acts 246 = .ok (.aload_n 3, 1) := by decide +kernel
theorem dL_acts_247 : decode cL_acts 247 = .ok (.iconst 2, 1) := by decide +kernel
theorem dL_acts_248 : decode cL_acts 248 = .ok (.iaload, 1) := by decide +kernel
theorem dL_acts_249 : decode cL_acts 249 = .ok (.iload 10, 2) := by decide +kernel
theorem dL_acts_251 : decode cL_acts 251 = .ok (.isub, 1) := by decide +kernel
theorem dL_acts_252 : decode cL_acts 252 = .ok (.iconst 1, 1) := by decide +kernel
theorem dL_acts_253 : decode cL_acts 253 = .ok (.iadd, 1) := by decide +kernel
theorem dL_acts_254 : decode cL_acts 254 = .ok (.istore 13, 2) := by decide +kernel
theorem dL_acts_256 : decode cL_acts 256 = .ok (.iload 13, 2) := by decide +kernel
theorem dL_acts_258 : decode cL_acts 258 = .ok (.aload_n 3, 1) := by decide +kernel
theorem dL_acts_259 : decode cL_acts 259 = .ok (.iconst 2, 1) := by decide +kernel
theorem dL_acts_260 : decode cL_acts 260 = .ok (.iaload, 1) := by decide +kernel
theorem dL_acts_261 : decode cL_acts 261 = .ok (.if_icmp .gt 102, 3) := by decide +kernel
theorem dL_acts_264 : decode cL_acts 264 = .ok (.iload 11, 2) := by decide +kernel
theorem dL_acts_266 : decode cL_acts 266 = .ok (.ifCond .le 97, 3) := by decide +kernel
theorem dL_acts_269 : decode cL_acts 269 = .ok (.iconst 0, 1) := by decide +kernel
theorem dL_acts_270 : decode cL_acts 270 = .ok (.istore 14, 2) := by decide +kernel
theorem dL_acts_272 : decode cL_acts 272 = .ok (.iload 14, 2) := by decide +kernel
theorem dL_acts_274 : decode cL_acts 274 = .ok (.aload_n 3, 1) := by decide +kernel
theorem dL_acts_275 : decode cL_acts 275 = .ok (.bipush 6, 2) := by decide +kernel
theorem dL_acts_277 : decode cL_acts 277 = .ok (.iaload, 1) := by decide +kernel
theorem dL_acts_278 : decode cL_acts 278 = .ok (.if_icmp .ge 79, 3) := by decide +kernel
theorem dL_acts_281 : decode cL_acts 281 = .ok (.aload 7, 2) := by decide +kernel
theorem dL_acts_283 : decode cL_acts 283 = .ok (.iconst 5, 1) := by decide +kernel
theorem dL_acts_284 : decode cL_acts 284 = .ok (.iload 14, 2) := by decide +kernel
theorem dL_acts_286 : decode cL_acts 286 = .ok (.imul, 1) := by decide +kernel
theorem dL_acts_287 : decode cL_acts 287 = .ok (.iconst 1, 1) := by decide +kernel
theorem dL_acts_288 : decode cL_acts 288 = .ok (.iadd, 1) := by decide +kernel
theorem dL_acts_289 : decode cL_acts 289 = .ok (.iaload, 1) := by decide +kernel
theorem dL_acts_290 : decode cL_acts 290 = .ok (.iconst 2, 1) := by decide +kernel
theorem dL_acts_291 : decode cL_acts 291 = .ok (.iload 13, 2) := by decide +kernel
theorem dL_acts_293 : decode cL_acts 293 = .ok (.iadd, 1) := by decide +kernel
theorem dL_acts_294 : decode cL_acts 294 = .ok (.if_icmp .ne 57, 3) := by decide +kernel
theorem dL_acts_297 : decode cL_acts 297 = .ok (.aload 7, 2) := by decide +kernel
theorem dL_acts_299 : decode cL_acts 299 = .ok (.iconst 5, 1) := by decide +kernel
theorem dL_acts_300 : decode cL_acts 300 = .ok (.iload 14, 2) := by decide +kernel
theorem dL_acts_302 : decode cL_acts 302 = .ok (.imul, 1) := by decide +kernel
theorem dL_acts_303 : decode cL_acts 303 = .ok (.iconst 1, 1) := by decide +kernel
theorem dL_acts_304 : decode cL_acts 304 = .ok (.iadd, 1) := by decide +kernel
theorem dL_acts_305 : decode cL_acts 305 = .ok (.iconst 0, 1) := by decide +kernel
theorem dL_acts_306 : decode cL_acts 306 = .ok (.iastore, 1) := by decide +kernel
theorem dL_acts_307 : decode cL_acts 307 = .ok (.iload 12, 2) := by decide +kernel
theorem dL_acts_309 : decode cL_acts 309 = .ok (.ifCond .eq 39, 3) := by decide +kernel
theorem dL_acts_312 : decode cL_acts 312 = .ok (.aload_n 0, 1) := by decide +kernel
theorem dL_acts_313 : decode cL_acts 313 = .ok (.aload_n 3, 1) := by decide +kernel
theorem dL_acts_314 : decode cL_acts 314 = .ok (.bipush 6, 2) := by decide +kernel
theorem dL_acts_316 : decode cL_acts 316 = .ok (.aload 7, 2) := by decide +kernel
theorem dL_acts_318 : decode cL_acts 318 = .ok (.iconst 5, 1) := by decide +kernel
theorem dL_acts_319 : decode cL_acts 319 = .ok (.iload 14, 2) := by decide +kernel
theorem dL_acts_321 : decode cL_acts 321 = .ok (.imul, 1) := by decide +kernel
theorem dL_acts_322 : decode cL_acts 322 = .ok (.iaload, 1) := by decide +kernel
theorem dL_acts_323 : decode cL_acts 323 = .ok (.bipush 8, 2) := by decide +kernel
theorem dL_acts_325 : decode cL_acts 325 = .ok (.idiv, 1) := by decide +kernel
theorem dL_acts_326 : decode cL_acts 326 = .ok (.aload 7, 2) := by decide +kernel
theorem dL_acts_328 : decode cL_acts 328 = .ok (.iconst 5, 1) := by decide +kernel
theorem dL_acts_329 : decode cL_acts 329 = .ok (.iload 14, 2) := by decide +kernel
theorem dL_acts_331 : decode cL_acts 331 = .ok (.imul, 1) := by decide +kernel
theorem dL_acts_332 : decode cL_acts 332 = .ok (.iaload, 1) := by decide +kernel
theorem dL_acts_333 : decode cL_acts 333 = .ok (.bipush 8, 2) := by decide +kernel
theorem dL_acts_335 : decode cL_acts 335 = .ok (.irem, 1) := by decide +kernel
theorem dL_acts_336 : decode cL_acts 336 = .ok (.iload 13, 2) := by decide +kernel
theorem dL_acts_338 : decode cL_acts 338 = .ok (.invokestatic 38, 3) := by decide +kernel
theorem dL_acts_341 : decode cL_acts 341 = .ok (.ifCond .eq 7, 3) := by decide +kernel
theorem dL_acts_344 : decode cL_acts 344 = .ok (.iconst 1, 1) := by decide +kernel
theorem dL_acts_345 : decode cL_acts 345 = .ok (.goto 4, 3) := by decide +kernel
theorem dL_acts_348 : decode cL_acts 348 = .ok (.iconst 0, 1) := by decide +kernel
theorem dL_acts_349 : decode cL_acts 349 = .ok (.istore 12, 2) := by decide +kernel
theorem dL_acts_351 : decode cL_acts 351 = .ok (.iinc 14 1, 3) := by decide +kernel
theorem dL_acts_354 : decode cL_acts 354 = .ok (.goto (-82), 3) := by decide +kernel
theorem dL_acts_357 : decode cL_acts 357 = .ok (.iinc 13 1, 3) := by decide +kernel
theorem dL_acts_360 : decode cL_acts 360 = .ok (.goto (-104), 3) := by decide +kernel
theorem dL_acts_363 : decode cL_acts 363 = .ok (.iconst 0, 1) := by decide +kernel
theorem dL_acts_364 : decode cL_acts 364 = .ok (.istore 13, 2) := by decide +kernel
theorem dL_acts_366 : decode cL_acts 366 = .ok (.iload 13, 2) := by decide +kernel
theorem dL_acts_368 : decode cL_acts 368 = .ok (.aload_n 3, 1) := by decide +kernel
theorem dL_acts_369 : decode cL_acts 369 = .ok (.iconst 4, 1) := by decide +kernel
theorem dL_acts_370 : decode cL_acts 370 = .ok (.iaload, 1) := by decide +kernel
theorem dL_acts_371 : decode cL_acts 371 = .ok (.if_icmp .ge 61, 3) := by decide +kernel
theorem dL_acts_374 : decode cL_acts 374 = .ok (.aload 5, 2) := by decide +kernel
theorem dL_acts_376 : decode cL_acts 376 = .ok (.iconst 5, 1) := by decide +kernel
theorem dL_acts_377 : decode cL_acts 377 = .ok (.iload 13, 2) := by decide +kernel
theorem dL_acts_379 : decode cL_acts 379 = .ok (.imul, 1) := by decide +kernel
theorem dL_acts_380 : decode cL_acts 380 = .ok (.iconst 3, 1) := by decide +kernel
theorem dL_acts_381 : decode cL_acts 381 = .ok (.iadd, 1) := by decide +kernel
theorem dL_acts_382 : decode cL_acts 382 = .ok (.aload 5, 2) := by decide +kernel
theorem dL_acts_384 : decode cL_acts 384 = .ok (.iconst 5, 1) := by decide +kernel
theorem dL_acts_385 : decode cL_acts 385 = .ok (.iload 13, 2) := by decide +kernel
theorem dL_acts_387 : decode cL_acts 387 = .ok (.imul, 1) := by decide +kernel
theorem dL_acts_388 : decode cL_acts 388 = .ok (.iconst 3, 1) := by decide +kernel
theorem dL_acts_389 : decode cL_acts 389 = .ok (.iadd, 1) := by decide +kernel
theorem dL_acts_390 : decode cL_acts 390 = .ok (.iaload, 1) := by decide +kernel
theorem dL_acts_391 : decode cL_acts 391 = .ok (.ifCond .ne 25, 3) := by decide +kernel
theorem dL_acts_394 : decode cL_acts 394 = .ok (.aload_n 3, 1) := by decide +kernel
theorem dL_acts_395 : decode cL_acts 395 = .ok (.iconst 2, 1) := by decide +kernel
theorem dL_acts_396 : decode cL_acts 396 = .ok (.iaload, 1) := by decide +kernel
theorem dL_acts_397 : decode cL_acts 397 = .ok (.aload 5, 2) := by decide +kernel
theorem dL_acts_399 : decode cL_acts 399 = .ok (.iconst 5, 1) := by decide +kernel
theorem dL_acts_400 : decode cL_acts 400 = .ok (.iload 13, 2) := by decide +kernel
theorem dL_acts_402 : decode cL_acts 402 = .ok (.imul, 1) := by decide +kernel
theorem dL_acts_403 : decode cL_acts 403 = .ok (.iconst 2, 1) := by decide +kernel
theorem dL_acts_404 : decode cL_acts 404 = .ok (.iadd, 1) := by decide +kernel
theorem dL_acts_405 : decode cL_acts 405 = .ok (.iaload, 1) := by decide +kernel
theorem dL_acts_406 : decode cL_acts 406 = .ok (.bipush 60, 2) := by decide +kernel
theorem dL_acts_408 : decode cL_acts 408 = .ok (.iadd, 1) := by decide +kernel
theorem dL_acts_409 : decode cL_acts 409 = .ok (.if_icmp .lt 7, 3) := by decide +kernel
theorem dL_acts_412 : decode cL_acts 412 = .ok (.iconst 3, 1) := by decide +kernel
theorem dL_acts_413 : decode cL_acts 413 = .ok (.goto 12, 3) := by decide +kernel
theorem dL_acts_416 : decode cL_acts 416 = .ok (.aload 5, 2) := by decide +kernel
theorem dL_acts_418 : decode cL_acts 418 = .ok (.iconst 5, 1) := by decide +kernel
theorem dL_acts_419 : decode cL_acts 419 = .ok (.iload 13, 2) := by decide +kernel
theorem dL_acts_421 : decode cL_acts 421 = .ok (.imul, 1) := by decide +kernel
theorem dL_acts_422 : decode cL_acts 422 = .ok (.iconst 3, 1) := by decide +kernel
theorem dL_acts_423 : decode cL_acts 423 = .ok (.iadd, 1) := by decide +kernel
theorem dL_acts_424 : decode cL_acts 424 = .ok (.iaload, 1) := by decide +kernel
theorem dL_acts_425 : decode cL_acts 425 = .ok (.iastore, 1) := by decide +kernel
theorem dL_acts_426 : decode cL_acts 426 = .ok (.iinc 13 1, 3) := by decide +kernel
theorem dL_acts_429 : decode cL_acts 429 = .ok (.goto (-63), 3) := by decide +kernel
theorem dL_acts_432 : decode cL_acts 432 = .ok (.iload 12, 2) := by decide +kernel
theorem dL_acts_434 : decode cL_acts 434 = .ok (.ireturn, 1) := by decide +kernel
theorem dL_acts_435 : decode cL_acts 435 = .ok (.iload 8, 2) := by decide +kernel
theorem dL_acts_437 : decode cL_acts 437 = .ok (.bipush 6, 2) := by decide +kernel
theorem dL_acts_439 : decode cL_acts 439 = .ok (.if_icmp .ge 181, 3) := by decide +kernel
theorem dL_acts_442 : decode cL_acts 442 = .ok (.iload 9, 2) := by decide +kernel
theorem dL_acts_444 : decode cL_acts 444 = .ok (.aload_n 3, 1) := by decide +kernel
theorem dL_acts_445 : decode cL_acts 445 = .ok (.iconst 0, 1) := by decide +kernel
theorem dL_acts_446 : decode cL_acts 446 = .ok (.iaload, 1) := by decide +kernel
theorem dL_acts_447 : decode cL_acts 447 = .ok (.irem, 1) := by decide +kernel
theorem dL_acts_448 : decode cL_acts 448 = .ok (.istore 10, 2) := by decide +kernel
theorem dL_acts_450 : decode cL_acts 450 = .ok (.iload 9, 2) := by decide +kernel
theorem dL_acts_452 : decode cL_acts 452 = .ok (.iconst 5, 1) := by decide +kernel
theorem dL_acts_453 : decode cL_acts 453 = .ok (.idiv, 1) := by decide +kernel
theorem dL_acts_454 : decode cL_acts 454 = .ok (.iconst 2, 1) := by decide +kernel
theorem dL_acts_455 : decode cL_acts 455 = .ok (.irem, 1) := by decide +kernel
theorem dL_acts_456 : decode cL_acts 456 = .ok (.istore 11, 2) := by decide +kernel
theorem dL_acts_458 : decode cL_acts 458 = .ok (.iload 9, 2) := by decide +kernel
theorem dL_acts_460 : decode cL_acts 460 = .ok (.bipush 10, 2) := by decide +kernel
theorem dL_acts_462 : decode cL_acts 462 = .ok (.idiv, 1) := by decide +kernel
theorem dL_acts_463 : decode cL_acts 463 = .ok (.iconst 3, 1) := by decide +kernel
theorem dL_acts_464 : decode cL_acts 464 = .ok (.irem, 1) := by decide +kernel
theorem dL_acts_465 : decode cL_acts 465 = .ok (.ifCond .le 7, 3) := by decide +kernel
theorem dL_acts_468 : decode cL_acts 468 = .ok (.iconst 1, 1) := by decide +kernel
theorem dL_acts_469 : decode cL_acts 469 = .ok (.goto 4, 3) := by decide +kernel
theorem dL_acts_472 : decode cL_acts 472 = .ok (.iconst 0, 1) := by decide +kernel
theorem dL_acts_473 : decode cL_acts 473 = .ok (.istore 12, 2) := by decide +kernel
theorem dL_acts_475 : decode cL_acts 475 = .ok (.aload_n 1, 1) := by decide +kernel
theorem dL_acts_476 : decode cL_acts 476 = .ok (.iconst 2, 1) := by decide +kernel
theorem dL_acts_477 : decode cL_acts 477 = .ok (.iload 10, 2) := by decide +kernel
theorem dL_acts_479 : decode cL_acts 479 = .ok (.imul, 1) := by decide +kernel
theorem dL_acts_480 : decode cL_acts 480 = .ok (.iconst 1, 1) := by decide +kernel
theorem dL_acts_481 : decode cL_acts 481 = .ok (.iadd, 1) := by decide +kernel
theorem dL_acts_482 : decode cL_acts 482 = .ok (.iload 12, 2) := by decide +kernel
theorem dL_acts_484 : decode cL_acts 484 = .ok (.ifCond .eq 19, 3) := by decide +kernel
theorem dL_acts_487 : decode cL_acts 487 = .ok (.aload_n 1, 1) := by decide +kernel
theorem dL_acts_488 : decode cL_acts 488 = .ok (.iconst 2, 1) := by decide +kernel
theorem dL_acts_489 : decode cL_acts 489 = .ok (.iload 10, 2) := by decide +kernel
theorem dL_acts_491 : decode cL_acts 491 = .ok (.imul, 1) := by decide +kernel
theorem dL_acts_492 : decode cL_acts 492 = .ok (.iconst 1, 1) := by decide +kernel
theorem dL_acts_493 : decode cL_acts 493 = .ok (.iadd, 1) := by decide +kernel
theorem dL_acts_494 : decode cL_acts 494 = .ok (.iaload, 1) := by decide +kernel
theorem dL_acts_495 : decode cL_acts 495 = .ok (.iconst 1, 1) := by decide +kernel
theorem dL_acts_496 : decode cL_acts 496 = .ok (.iload 11, 2) := by decide +kernel
theorem dL_acts_498 : decode cL_acts 498 = .ok (.ishl, 1) := by decide +kernel
theorem dL_acts_499 : decode cL_acts 499 = .ok (.ior, 1) := by decide +kernel
theorem dL_acts_500 : decode cL_acts 500 = .ok (.goto 18, 3) := by decide +kernel
theorem dL_acts_503 : decode cL_acts 503 = .ok (.aload_n 1, 1) := by decide +kernel
theorem dL_acts_504 : decode cL_acts 504 = .ok (.iconst 2, 1) := by decide +kernel
theorem dL_acts_505 : decode cL_acts 505 = .ok (.iload 10, 2) := by decide +kernel
theorem dL_acts_507 : decode cL_acts 507 = .ok (.imul, 1) := by decide +kernel
theorem dL_acts_508 : decode cL_acts 508 = .ok (.iconst 1, 1) := by decide +kernel
theorem dL_acts_509 : decode cL_acts 509 = .ok (.iadd, 1) := by decide +kernel
theorem dL_acts_510 : decode cL_acts 510 = .ok (.iaload, 1) := by decide +kernel
theorem dL_acts_511 : decode cL_acts 511 = .ok (.iconst 1, 1) := by decide +kernel
theorem dL_acts_512 : decode cL_acts 512 = .ok (.iload 11, 2) := by decide +kernel
theorem dL_acts_514 : decode cL_acts 514 = .ok (.ishl, 1) := by decide +kernel
theorem dL_acts_515 : decode cL_acts 515 = .ok (.iconst (-1), 1) := by decide +kernel
theorem dL_acts_516 : decode cL_acts 516 = .ok (.ixor, 1) := by decide +kernel
theorem dL_acts_517 : decode cL_acts 517 = .ok (.iand, 1) := by decide +kernel
theorem dL_acts_518 : decode cL_acts 518 = .ok (.iastore, 1) := by decide +kernel
theorem dL_acts_519 : decode cL_acts 519 = .ok (.iconst 0, 1) := by decide +kernel
theorem dL_acts_520 : decode cL_acts 520 = .ok (.istore 13, 2) := by decide +kernel
theorem dL_acts_522 : decode cL_acts 522 = .ok (.iload 13, 2) := by decide +kernel
theorem dL_acts_524 : decode cL_acts 524 = .ok (.aload_n 3, 1) := by decide +kernel
theorem dL_acts_525 : decode cL_acts 525 = .ok (.iconst 1, 1) := by decide +kernel
theorem dL_acts_526 : decode cL_acts 526 = .ok (.iaload, 1) := by decide +kernel
theorem dL_acts_527 : decode cL_acts 527 = .ok (.if_icmp .ge 51, 3) := by decide +kernel
theorem dL_acts_530 : decode cL_acts 530 = .ok (.iload 12, 2) := by decide +kernel
theorem dL_acts_532 : decode cL_acts 532 = .ok (.ifCond .ne 46, 3) := by decide +kernel
theorem dL_acts_535 : decode cL_acts 535 = .ok (.aload_n 2, 1) := by decide +kernel
theorem dL_acts_536 : decode cL_acts 536 = .ok (.iload 13, 2) := by decide +kernel
theorem dL_acts_538 : decode cL_acts 538 = .ok (.iaload, 1) := by decide +kernel
theorem dL_acts_539 : decode cL_acts 539 = .ok (.iload 11, 2) := by decide +kernel
theorem dL_acts_541 : decode cL_acts 541 = .ok (.if_icmp .ne 31, 3) := by decide +kernel
theorem dL_acts_544 : decode cL_acts 544 = .ok (.aload 4, 2) := by decide +kernel
theorem dL_acts_546 : decode cL_acts 546 = .ok (.aload_n 3, 1) := by decide +kernel
theorem dL_acts_547 : decode cL_acts 547 = .ok (.bipush 8, 2) := by decide +kernel
theorem dL_acts_549 : decode cL_acts 549 = .ok (.iload 10, 2) := by decide +kernel
theorem dL_acts_551 : decode cL_acts 551 = .ok (.imul, 1) := by decide +kernel
theorem dL_acts_552 : decode cL_acts 552 = .ok (.iload 13, 2) := by decide +kernel
theorem dL_acts_554 : decode cL_acts 554 = .ok (.iadd, 1) := by decide +kernel
theorem dL_acts_555 : decode cL_acts 555 = .ok (.invokestatic 116, 3) := by decide +kernel
theorem dL_acts_558 : decode cL_acts 558 = .ok (.aload 5, 2) := by decide +kernel
theorem dL_acts_560 : decode cL_acts 560 = .ok (.aload_n 3, 1) := by decide +kernel
theorem dL_acts_561 : decode cL_acts 561 = .ok (.bipush 8, 2) := by decide +kernel
theorem dL_acts_563 : decode cL_acts 563 = .ok (.iload 10, 2) := by decide +kernel
theorem dL_acts_565 : decode cL_acts 565 = .ok (.imul, 1) := by decide +kernel
theorem dL_acts_566 : decode cL_acts 566 = .ok (.iload 13, 2) := by decide +kernel
theorem dL_acts_568 : decode cL_acts 568 = .ok (.iadd, 1) := by decide +kernel
theorem dL_acts_569 : decode cL_acts 569 = .ok (.invokestatic 147, 3) := by decide +kernel
theorem dL_acts_572 : decode cL_acts 572 = .ok (.iinc 13 1, 3) := by decide +kernel
theorem dL_acts_575 : decode cL_acts 575 = .ok (.goto (-53), 3) := by decide +kernel
theorem dL_acts_578 : decode cL_acts 578 = .ok (.aload_n 0, 1) := by decide +kernel
theorem dL_acts_579 : decode cL_acts 579 = .ok (.iload 10, 2) := by decide +kernel
theorem dL_acts_581 : decode cL_acts 581 = .ok (.iload 11, 2) := by decide +kernel
theorem dL_acts_583 : decode cL_acts 583 = .ok (.iload 12, 2) := by decide +kernel
theorem dL_acts_585 : decode cL_acts 585 = .ok (.invokevirtual 149, 3) := by decide +kernel
theorem dL_acts_588 : decode cL_acts 588 = .ok (.istore 13, 2) := by decide +kernel
theorem dL_acts_590 : decode cL_acts 590 = .ok (.iload 13, 2) := by decide +kernel
theorem dL_acts_592 : decode cL_acts 592 = .ok (.iload 12, 2) := by decide +kernel
theorem dL_acts_594 : decode cL_acts 594 = .ok (.ifCond .eq 7, 3) := by decide +kernel
theorem dL_acts_597 : decode cL_acts 597 = .ok (.iconst 0, 1) := by decide +kernel
theorem dL_acts_598 : decode cL_acts 598 = .ok (.goto 13, 3) := by decide +kernel
theorem dL_acts_601 : decode cL_acts 601 = .ok (.aload_n 0, 1) := by decide +kernel
theorem dL_acts_602 : decode cL_acts 602 = .ok (.aload 4, 2) := by decide +kernel
theorem dL_acts_604 : decode cL_acts 604 = .ok (.aload 7, 2) := by decide +kernel
theorem dL_acts_606 : decode cL_acts 606 = .ok (.aload_n 3, 1) := by decide +kernel
theorem dL_acts_607 : decode cL_acts 607 = .ok (.iconst (-1), 1) := by decide +kernel
theorem dL_acts_608 : decode cL_acts 608 = .ok (.invokestatic 120, 3) := by decide +kernel
theorem dL_acts_611 : decode cL_acts 611 = .ok (.if_icmp .ne 7, 3) := by decide +kernel
theorem dL_acts_614 : decode cL_acts 614 = .ok (.iconst 1, 1) := by decide +kernel
theorem dL_acts_615 : decode cL_acts 615 = .ok (.goto 4, 3) := by decide +kernel
theorem dL_acts_618 : decode cL_acts 618 = .ok (.iconst 0, 1) := by decide +kernel
theorem dL_acts_619 : decode cL_acts 619 = .ok (.ireturn, 1) := by decide +kernel
theorem dL_acts_620 : decode cL_acts 620 = .ok (.iload 8, 2) := by decide +kernel
theorem dL_acts_622 : decode cL_acts 622 = .ok (.bipush 6, 2) := by decide +kernel
theorem dL_acts_624 : decode cL_acts 624 = .ok (.if_icmp .ne 80, 3) := by decide +kernel
theorem dL_acts_627 : decode cL_acts 627 = .ok (.iload 9, 2) := by decide +kernel
theorem dL_acts_629 : decode cL_acts 629 = .ok (.aload_n 3, 1) := by decide +kernel
theorem dL_acts_630 : decode cL_acts 630 = .ok (.iconst 0, 1) := by decide +kernel
theorem dL_acts_631 : decode cL_acts 631 = .ok (.iaload, 1) := by decide +kernel
theorem dL_acts_632 : decode cL_acts 632 = .ok (.irem, 1) := by decide +kernel
theorem dL_acts_633 : decode cL_acts 633 = .ok (.istore 10, 2) := by decide +kernel
theorem dL_acts_635 : decode cL_acts 635 = .ok (.iload 9, 2) := by decide +kernel
theorem dL_acts_637 : decode cL_acts 637 = .ok (.iconst 5, 1) := by decide +kernel
theorem dL_acts_638 : decode cL_acts 638 = .ok (.idiv, 1) := by decide +kernel
theorem dL_acts_639 : decode cL_acts 639 = .ok (.aload_n 3, 1) := by decide +kernel
theorem dL_acts_640 : decode cL_acts 640 = .ok (.iconst 1, 1) := by decide +kernel
theorem dL_acts_641 : decode cL_acts 641 = .ok (.iaload, 1) := by decide +kernel
theorem dL_acts_642 : decode cL_acts 642 = .ok (.irem, 1) := by decide +kernel
theorem dL_acts_643 : decode cL_acts 643 = .ok (.istore 11, 2) := by decide +kernel
theorem dL_acts_645 : decode cL_acts 645 = .ok (.aload 4, 2) := by decide +kernel
theorem dL_acts_647 : decode cL_acts 647 = .ok (.aload_n 3, 1) := by decide +kernel
theorem dL_acts_648 : decode cL_acts 648 = .ok (.bipush 8, 2) := by decide +kernel
theorem dL_acts_650 : decode cL_acts 650 = .ok (.iload 10, 2) := by decide +kernel
theorem dL_acts_652 : decode cL_acts 652 = .ok (.imul, 1) := by decide +kernel
theorem dL_acts_653 : decode cL_acts 653 = .ok (.iload 11, 2) := by decide +kernel
theorem dL_acts_655 : decode cL_acts 655 = .ok (.iadd, 1) := by decide +kernel
theorem dL_acts_656 : decode cL_acts 656 = .ok (.invokestatic 116, 3) := by decide +kernel
theorem dL_acts_659 : decode cL_acts 659 = .ok (.aload 5, 2) := by decide +kernel
theorem dL_acts_661 : decode cL_acts 661 = .ok (.aload_n 3, 1) := by decide +kernel
theorem dL_acts_662 : decode cL_acts 662 = .ok (.bipush 8, 2) := by decide +kernel
theorem dL_acts_664 : decode cL_acts 664 = .ok (.iload 10, 2) := by decide +kernel
theorem dL_acts_666 : decode cL_acts 666 = .ok (.imul, 1) := by decide +kernel
theorem dL_acts_667 : decode cL_acts 667 = .ok (.iload 11, 2) := by decide +kernel
theorem dL_acts_669 : decode cL_acts 669 = .ok (.iadd, 1) := by decide +kernel
theorem dL_acts_670 : decode cL_acts 670 = .ok (.invokestatic 147, 3) := by decide +kernel
theorem dL_acts_673 : decode cL_acts 673 = .ok (.aload_n 0, 1) := by decide +kernel
theorem dL_acts_674 : decode cL_acts 674 = .ok (.iload 10, 2) := by decide +kernel
theorem dL_acts_676 : decode cL_acts 676 = .ok (.iload 11, 2) := by decide +kernel
theorem dL_acts_678 : decode cL_acts 678 = .ok (.invokevirtual 153, 3) := by decide +kernel
theorem dL_acts_681 : decode cL_acts 681 = .ok (.istore 12, 2) := by decide +kernel
theorem dL_acts_683 : decode cL_acts 683 = .ok (.iload 12, 2) := by decide +kernel
theorem dL_acts_685 : decode cL_acts 685 = .ok (.aload_n 0, 1) := by decide +kernel
theorem dL_acts_686 : decode cL_acts 686 = .ok (.aload 4, 2) := by decide +kernel
theorem dL_acts_688 : decode cL_acts 688 = .ok (.aload 7, 2) := by decide +kernel
theorem dL_acts_690 : decode cL_acts 690 = .ok (.aload_n 3, 1) := by decide +kernel
theorem dL_acts_691 : decode cL_acts 691 = .ok (.iconst (-1), 1) := by decide +kernel
theorem dL_acts_692 : decode cL_acts 692 = .ok (.invokestatic 120, 3) := by decide +kernel
theorem dL_acts_695 : decode cL_acts 695 = .ok (.if_icmp .ne 7, 3) := by decide +kernel
theorem dL_acts_698 : decode cL_acts 698 = .ok (.iconst 1, 1) := by decide +kernel
theorem dL_acts_699 : decode cL_acts 699 = .ok (.goto 4, 3) := by decide +kernel
theorem dL_acts_702 : decode cL_acts 702 = .ok (.iconst 0, 1) := by decide +kernel
theorem dL_acts_703 : decode cL_acts 703 = .ok (.ireturn, 1) := by decide +kernel
theorem dL_acts_704 : decode cL_acts 704 = .ok (.iload 8, 2) := by decide +kernel
theorem dL_acts_706 : decode cL_acts 706 = .ok (.bipush 15, 2) := by decide +kernel
theorem dL_acts_708 : decode cL_acts 708 = .ok (.if_icmp .ge 25, 3) := by decide +kernel
theorem dL_acts_711 : decode cL_acts 711 = .ok (.aload_n 0, 1) := by decide +kernel
theorem dL_acts_712 : decode cL_acts 712 = .ok (.aload_n 1, 1) := by decide +kernel
theorem dL_acts_713 : decode cL_acts 713 = .ok (.aload_n 2, 1) := by decide +kernel
theorem dL_acts_714 : decode cL_acts 714 = .ok (.aload_n 3, 1) := by decide +kernel
theorem dL_acts_715 : decode cL_acts 715 = .ok (.aload 4, 2) := by decide +kernel
theorem dL_acts_717 : decode cL_acts 717 = .ok (.aload 5, 2) := by decide +kernel
theorem dL_acts_719 : decode cL_acts 719 = .ok (.aload 6, 2) := by decide +kernel
theorem dL_acts_721 : decode cL_acts 721 = .ok (.iload 8, 2) := by decide +kernel
theorem dL_acts_723 : decode cL_acts 723 = .ok (.iconst 5, 1) := by decide +kernel
theorem dL_acts_724 : decode cL_acts 724 = .ok (.irem, 1) := by decide +kernel
theorem dL_acts_725 : decode cL_acts 725 = .ok (.iload 9, 2) := by decide +kernel
theorem dL_acts_727 : decode cL_acts 727 = .ok (.invokestatic 156, 3) := by decide +kernel
theorem dL_acts_730 : decode cL_acts 730 = .ok (.goto 39, 3) := by decide +kernel
theorem dL_acts_733 : decode cL_acts 733 = .ok (.aload_n 0, 1) := by decide +kernel
theorem dL_acts_734 : decode cL_acts 734 = .ok (.aload_n 1, 1) := by decide +kernel
theorem dL_acts_735 : decode cL_acts 735 = .ok (.aload_n 2, 1) := by decide +kernel
theorem dL_acts_736 : decode cL_acts 736 = .ok (.aload_n 3, 1) := by decide +kernel
theorem dL_acts_737 : decode cL_acts 737 = .ok (.aload 4, 2) := by decide +kernel
theorem dL_acts_739 : decode cL_acts 739 = .ok (.aload 7, 2) := by decide +kernel
theorem dL_acts_741 : decode cL_acts 741 = .ok (.iload 8, 2) := by decide +kernel
theorem dL_acts_743 : decode cL_acts 743 = .ok (.iconst 4, 1) := by decide +kernel
theorem dL_acts_744 : decode cL_acts 744 = .ok (.irem, 1) := by decide +kernel
theorem dL_acts_745 : decode cL_acts 745 = .ok (.iconst 2, 1) := by decide +kernel
theorem dL_acts_746 : decode cL_acts 746 = .ok (.if_icmp .ne 14, 3) := by decide +kernel
theorem dL_acts_749 : decode cL_acts 749 = .ok (.iload 9, 2) := by decide +kernel
theorem dL_acts_751 : decode cL_acts 751 = .ok (.iconst 3, 1) := by decide +kernel
theorem dL_acts_752 : decode cL_acts 752 = .ok (.irem, 1) := by decide +kernel
theorem dL_acts_753 : decode cL_acts 753 = .ok (.ifCond .le 7, 3) := by decide +kernel
theorem dL_acts_756 : decode cL_acts 756 = .ok (.iconst 3, 1) := by decide +kernel
theorem dL_acts_757 : decode cL_acts 757 = .ok (.goto 7, 3) := by decide +kernel
theorem dL_acts_760 : decode cL_acts 760 = .ok (.iload 8, 2) := by decide +kernel
theorem dL_acts_762 : decode cL_acts 762 = .ok (.iconst 4, 1) := by decide +kernel
theorem dL_acts_763 : decode cL_acts 763 = .ok (.irem, 1) := by decide +kernel
theorem dL_acts_764 : decode cL_acts 764 = .ok (.iload 9, 2) := by decide +kernel
theorem dL_acts_766 : decode cL_acts 766 = .ok (.invokestatic 160, 3) := by decide +kernel
theorem dL_acts_769 : decode cL_acts 769 = .ok (.ireturn, 1) := by decide +kernel
theorem dL_holds_0 : decode cL_holds 0 = .ok (.new 20, 3) := by decide +kernel
theorem dL_holds_3 : decode cL_holds 3 = .ok (.dup, 1) := by decide +kernel
theorem dL_holds_4 : decode cL_holds 4 = .ok (.invokespecial 164, 3) := by decide +kernel
theorem dL_holds_7 : decode cL_holds 7 = .ok (.astore_n 1, 1) := by decide +kernel
theorem dL_holds_8 : decode cL_holds 8 = .ok (.bipush 10, 2) := by decide +kernel
theorem dL_holds_10 : decode cL_holds 10 = .ok (.newarray .int, 2) := by decide +kernel
theorem dL_holds_12 : decode cL_holds 12 = .ok (.astore_n 2, 1) := by decide +kernel
theorem dL_holds_13 : decode cL_holds 13 = .ok (.iconst 3, 1) := by decide +kernel
theorem dL_holds_14 : decode cL_holds 14 = .ok (.newarray .int, 2) := by decide +kernel
theorem dL_holds_16 : decode cL_holds 16 = .ok (.astore_n 3, 1) := by decide +kernel
theorem dL_holds_17 : decode cL_holds 17 = .ok (.bipush 9, 2) := by decide +kernel
theorem dL_holds_19 : decode cL_holds 19 = .ok (.newarray .int, 2) := by decide +kernel
theorem dL_holds_21 : decode cL_holds 21 = .ok (.astore 4, 2) := by decide +kernel
theorem dL_holds_23 : decode cL_holds 23 = .ok (.bipush 63, 2) := by decide +kernel
theorem dL_holds_25 : decode cL_holds 25 = .ok (.newarray .int, 2) := by decide +kernel
theorem dL_holds_27 : decode cL_holds 27 = .ok (.astore 5, 2) := by decide +kernel
theorem dL_holds_29 : decode cL_holds 29 = .ok (.bipush 60, 2) := by decide +kernel
theorem dL_holds_31 : decode cL_holds 31 = .ok (.newarray .int, 2) := by decide +kernel
theorem dL_holds_33 : decode cL_holds 33 = .ok (.astore 6, 2) := by decide +kernel
theorem dL_holds_35 : decode cL_holds 35 = .ok (.bipush 60, 2) := by decide +kernel
theorem dL_holds_37 : decode cL_holds 37 = .ok (.newarray .int, 2) := by decide +kernel
theorem dL_holds_39 : decode cL_holds 39 = .ok (.astore 7, 2) := by decide +kernel
theorem dL_holds_41 : decode cL_holds 41 = .ok (.bipush 60, 2) := by decide +kernel
theorem dL_holds_43 : decode cL_holds 43 = .ok (.newarray .int, 2) := by decide +kernel
theorem dL_holds_45 : decode cL_holds 45 = .ok (.astore 8, 2) := by decide +kernel
theorem dL_holds_47 : decode cL_holds 47 = .ok (.iconst 1, 1) := by decide +kernel
theorem dL_holds_48 : decode cL_holds 48 = .ok (.istore 9, 2) := by decide +kernel
theorem dL_holds_50 : decode cL_holds 50 = .ok (.aload 4, 2) := by decide +kernel
theorem dL_holds_52 : decode cL_holds 52 = .ok (.bipush 8, 2) := by decide +kernel
theorem dL_holds_54 : decode cL_holds 54 = .ok (.iconst 1, 1) := by decide +kernel
theorem dL_holds_55 : decode cL_holds 55 = .ok (.iastore, 1) := by decide +kernel
theorem dL_holds_56 : decode cL_holds 56 = .ok (.iconst 0, 1) := by decide +kernel
theorem dL_holds_57 : decode cL_holds 57 = .ok (.istore 10, 2) := by decide +kernel
theorem dL_holds_59 : decode cL_holds 59 = .ok (.iload 10, 2) := by decide +kernel
theorem dL_holds_61 : decode cL_holds 61 = .ok (.iconst 5, 1) := by decide +kernel
theorem dL_holds_62 : decode cL_holds 62 = .ok (.if_icmp .ge 107, 3) := by decide +kernel
theorem dL_holds_65 : decode cL_holds 65 = .ok (.iload 9, 2) := by decide +kernel
theorem dL_holds_67 : decode cL_holds 67 = .ok (.ifCond .eq 102, 3) := by decide +kernel
theorem dL_holds_70 : decode cL_holds 70 = .ok (.aload_n 2, 1) := by decide +kernel
theorem dL_holds_71 : decode cL_holds 71 = .ok (.iconst 2, 1) := by decide +kernel
theorem dL_holds_72 : decode cL_holds 72 = .ok (.iload 10, 2) := by decide +kernel
theorem dL_holds_74 : decode cL_holds 74 = .ok (.imul, 1) := by decide +kernel
theorem dL_holds_75 : decode cL_holds 75 = .ok (.aload_n 0, 1) := by decide +kernel
theorem dL_holds_76 : decode cL_holds 76 = .ok (.iload 10, 2) := by decide +kernel
theorem dL_holds_78 : decode cL_holds 78 = .ok (.iconst 3, 1) := by decide +kernel
theorem dL_holds_79 : decode cL_holds 79 = .ok (.invokestatic 165, 3) := by decide +kernel
theorem dL_holds_82 : decode cL_holds 82 = .ok (.iastore, 1) := by decide +kernel
theorem dL_holds_83 : decode cL_holds 83 = .ok (.aload_n 2, 1) := by decide +kernel
theorem dL_holds_84 : decode cL_holds 84 = .ok (.iconst 2, 1) := by decide +kernel
theorem dL_holds_85 : decode cL_holds 85 = .ok (.iload 10, 2) := by decide +kernel
theorem dL_holds_87 : decode cL_holds 87 = .ok (.imul, 1) := by decide +kernel
theorem dL_holds_88 : decode cL_holds 88 = .ok (.iconst 1, 1) := by decide +kernel
theorem dL_holds_89 : decode cL_holds 89 = .ok (.iadd, 1) := by decide +kernel
theorem dL_holds_90 : decode cL_holds 90 = .ok (.aload_n 0, 1) := by decide +kernel
theorem dL_holds_91 : decode cL_holds 91 = .ok (.iload 10, 2) := by decide +kernel
theorem dL_holds_93 : decode cL_holds 93 = .ok (.bipush 7, 2) := by decide +kernel
theorem dL_holds_95 : decode cL_holds 95 = .ok (.invokestatic 165, 3) := by decide +kernel
theorem dL_holds_98 : decode cL_holds 98 = .ok (.ifCond .ne 7, 3) := by decide +kernel
theorem dL_holds_101 : decode cL_holds 101 = .ok (.iconst 1, 1) := by decide +kernel
theorem dL_holds_102 : decode cL_holds 102 = .ok (.goto 4, 3) := by decide +kernel
theorem dL_holds_105 : decode cL_holds 105 = .ok (.iconst 3, 1) := by decide +kernel
theorem dL_holds_106 : decode cL_holds 106 = .ok (.iastore, 1) := by decide +kernel
theorem dL_holds_107 : decode cL_holds 107 = .ok (.aload_n 1, 1) := by decide +kernel
theorem dL_holds_108 : decode cL_holds 108 = .ok (.aload_n 2, 1) := by decide +kernel
theorem dL_holds_109 : decode cL_holds 109 = .ok (.iconst 2, 1) := by decide +kernel
theorem dL_holds_110 : decode cL_holds 110 = .ok (.iload 10, 2) := by decide +kernel
theorem dL_holds_112 : decode cL_holds 112 = .ok (.imul, 1) := by decide +kernel
theorem dL_holds_113 : decode cL_holds 113 = .ok (.iaload, 1) := by decide +kernel
theorem dL_holds_114 : decode cL_holds 114 = .ok (.invokevirtual 169, 3) := by decide +kernel
theorem dL_holds_117 : decode cL_holds 117 = .ok (.iload 10, 2) := by decide +kernel
theorem dL_holds_119 : decode cL_holds 119 = .ok (.if_icmp .ne 41, 3) := by decide +kernel
theorem dL_holds_122 : decode cL_holds 122 = .ok (.aload_n 1, 1) := by decide +kernel
theorem dL_holds_123 : decode cL_holds 123 = .ok (.iload 10, 2) := by decide +kernel
theorem dL_holds_125 : decode cL_holds 125 = .ok (.iconst 0, 1) := by decide +kernel
theorem dL_holds_126 : decode cL_holds 126 = .ok (.iconst 1, 1) := by decide +kernel
theorem dL_holds_127 : decode cL_holds 127 = .ok (.invokevirtual 149, 3) := by decide +kernel
theorem dL_holds_130 : decode cL_holds 130 = .ok (.ifCond .ne 30, 3) := by decide +kernel
theorem dL_holds_133 : decode cL_holds 133 = .ok (.aload_n 2, 1) := by decide +kernel
theorem dL_holds_134 : decode cL_holds 134 = .ok (.iconst 2, 1) := by decide +kernel
theorem dL_holds_135 : decode cL_holds 135 = .ok (.iload 10, 2) := by decide +kernel
theorem dL_holds_137 : decode cL_holds 137 = .ok (.imul, 1) := by decide +kernel
theorem dL_holds_138 : decode cL_holds 138 = .ok (.iconst 1, 1) := by decide +kernel
theorem dL_holds_139 : decode cL_holds 139 = .ok (.iadd, 1) := by decide +kernel
theorem dL_holds_140 : decode cL_holds 140 = .ok (.iaload, 1) := by decide +kernel
theorem dL_holds_141 : decode cL_holds 141 = .ok (.iconst 1, 1) := by decide +kernel
theorem dL_holds_142 : decode cL_holds 142 = .ok (.if_icmp .eq 14, 3) := by decide +kernel
theorem dL_holds_145 : decode cL_holds 145 = .ok (.aload_n 1, 1) := by decide +kernel
theorem dL_holds_146 : decode cL_holds 146 = .ok (.iload 10, 2) := by decide +kernel
theorem dL_holds_148 : decode cL_holds 148 = .ok (.iconst 1, 1) := by decide +kernel
theorem dL_holds_149 : decode cL_holds 149 = .ok (.iconst 1, 1) := by decide +kernel
theorem dL_holds_150 : decode cL_holds 150 = .ok (.invokevirtual 149, 3) := by decide +kernel
theorem dL_holds_153 : decode cL_holds 153 = .ok (.ifCond .ne 7, 3) := by decide +kernel
theorem dL_holds_156 : decode cL_holds 156 = .ok (.iconst 1, 1) := by decide +kernel
theorem dL_holds_157 : decode cL_holds 157 = .ok (.goto 4, 3) := by decide +kernel
theorem dL_holds_160 : decode cL_holds 160 = .ok (.iconst 0, 1) := by decide +kernel
theorem dL_holds_161 : decode cL_holds 161 = .ok (.istore 9, 2) := by decide +kernel
theorem dL_holds_163 : decode cL_holds 163 = .ok (.iinc 10 1, 3) := by decide +kernel
theorem dL_holds_166 : decode cL_holds 166 = .ok (.goto (-107), 3) := by decide +kernel
theorem dL_holds_169 : decode cL_holds 169 = .ok (.iconst 0, 1) := by decide +kernel
theorem dL_holds_170 : decode cL_holds 170 = .ok (.istore 10, 2) := by decide +kernel
theorem dL_holds_172 : decode cL_holds 172 = .ok (.iload 10, 2) := by decide +kernel
theorem dL_holds_174 : decode cL_holds 174 = .ok (.iconst 3, 1) := by decide +kernel
theorem dL_holds_175 : decode cL_holds 175 = .ok (.if_icmp .ge 42, 3) := by decide +kernel
theorem dL_holds_178 : decode cL_holds 178 = .ok (.iload 9, 2) := by decide +kernel
theorem dL_holds_180 : decode cL_holds 180 = .ok (.ifCond .eq 37, 3) := by decide +kernel
theorem dL_holds_183 : decode cL_holds 183 = .ok (.aload_n 3, 1) := by decide +kernel
theorem dL_holds_184 : decode cL_holds 184 = .ok (.iload 10, 2) := by decide +kernel
theorem dL_holds_186 : decode cL_holds 186 = .ok (.iload 10, 2) := by decide +kernel
theorem dL_holds_188 : decode cL_holds 188 = .ok (.iconst 2, 1) := by decide +kernel
theorem dL_holds_189 : decode cL_holds 189 = .ok (.irem, 1) := by decide +kernel
theorem dL_holds_190 : decode cL_holds 190 = .ok (.iastore, 1) := by decide +kernel
theorem dL_holds_191 : decode cL_holds 191 = .ok (.aload_n 1, 1) := by decide +kernel
theorem dL_holds_192 : decode cL_holds 192 = .ok (.iload 10, 2) := by decide +kernel
theorem dL_holds_194 : decode cL_holds 194 = .ok (.iconst 2, 1) := by decide +kernel
theorem dL_holds_195 : decode cL_holds 195 = .ok (.irem, 1) := by decide +kernel
theorem dL_holds_196 : decode cL_holds 196 = .ok (.invokevirtual 172, 3) := by decide +kernel
theorem dL_holds_199 : decode cL_holds 199 = .ok (.iload 10, 2) := by decide +kernel
theorem dL_holds_201 : decode cL_holds 201 = .ok (.if_icmp .ne 7, 3) := by decide +kernel
theorem dL_holds_204 : decode cL_holds 204 = .ok (.iconst 1, 1) := by decide +kernel
theorem dL_holds_205 : decode cL_holds 205 = .ok (.goto 4, 3) := by decide +kernel
theorem dL_holds_208 : decode cL_holds 208 = .ok (.iconst 0, 1) := by decide +kernel
theorem dL_holds_209 : decode cL_holds 209 = .ok (.istore 9, 2) := by decide +kernel
theorem dL_holds_211 : decode cL_holds 211 = .ok (.iinc 10 1, 3) := by decide +kernel
theorem dL_holds_214 : decode cL_holds 214 = .ok (.goto (-42), 3) := by decide +kernel
theorem dL_holds_217 : decode cL_holds 217 = .ok (.aload 4, 2) := by decide +kernel
theorem dL_holds_219 : decode cL_holds 219 = .ok (.iconst 0, 1) := by decide +kernel
theorem dL_holds_220 : decode cL_holds 220 = .ok (.iconst 5, 1) := by decide +kernel
theorem dL_holds_221 : decode cL_holds 221 = .ok (.iastore, 1) := by decide +kernel
theorem dL_holds_222 : decode cL_holds 222 = .ok (.aload 4, 2) := by decide +kernel
theorem dL_holds_224 : decode cL_holds 224 = .ok (.iconst 1, 1) := by decide +kernel
theorem dL_holds_225 : decode cL_holds 225 = .ok (.iconst 3, 1) := by decide +kernel
theorem dL_holds_226 : decode cL_holds 226 = .ok (.iastore, 1) := by decide +kernel
theorem dL_holds_227 : decode cL_holds 227 = .ok (.iconst 0, 1) := by decide +kernel
theorem dL_holds_228 : decode cL_holds 228 = .ok (.istore 10, 2) := by decide +kernel
theorem dL_holds_230 : decode cL_holds 230 = .ok (.iload 10, 2) := by decide +kernel
theorem dL_holds_232 : decode cL_holds 232 = .ok (.bipush 100, 2) := by decide +kernel
theorem dL_holds_234 : decode cL_holds 234 = .ok (.if_icmp .ge 103, 3) := by decide +kernel
theorem dL_holds_237 : decode cL_holds 237 = .ok (.iload 9, 2) := by decide +kernel
theorem dL_holds_239 : decode cL_holds 239 = .ok (.ifCond .eq 98, 3) := by decide +kernel
theorem dL_holds_242 : decode cL_holds 242 = .ok (.aload_n 1, 1) := by decide +kernel
theorem dL_holds_243 : decode cL_holds 243 = .ok (.aload_n 2, 1) := by decide +kernel
theorem dL_holds_244 : decode cL_holds 244 = .ok (.aload_n 3, 1) := by decide +kernel
theorem dL_holds_245 : decode cL_holds 245 = .ok (.aload 4, 2) := by decide +kernel
theorem dL_holds_247 : decode cL_holds 247 = .ok (.aload 5, 2) := by decide +kernel
theorem dL_holds_249 : decode cL_holds 249 = .ok (.aload 6, 2) := by decide +kernel
theorem dL_holds_251 : decode cL_holds 251 = .ok (.aload 7, 2) := by decide +kernel
theorem dL_holds_253 : decode cL_holds 253 = .ok (.aload 8, 2) := by decide +kernel
theorem dL_holds_255 : decode cL_holds 255 = .ok (.aload_n 0, 1) := by decide +kernel
theorem dL_holds_256 : decode cL_holds 256 = .ok (.bipush 10, 2) := by decide +kernel
theorem dL_holds_258 : decode cL_holds 258 = .ok (.iconst 2, 1) := by decide +kernel
theorem dL_holds_259 : decode cL_holds 259 = .ok (.iload 10, 2) := by decide +kernel
theorem dL_holds_261 : decode cL_holds 261 = .ok (.imul, 1) := by decide +kernel
theorem dL_holds_262 : decode cL_holds 262 = .ok (.iadd, 1) := by decide +kernel
theorem dL_holds_263 : decode cL_holds 263 = .ok (.bipush 28, 2) := by decide +kernel
theorem dL_holds_265 : decode cL_holds 265 = .ok (.invokestatic 165, 3) := by decide +kernel
theorem dL_holds_268 : decode cL_holds 268 = .ok (.aload_n 0, 1) := by decide +kernel
theorem dL_holds_269 : decode cL_holds 269 = .ok (.bipush 11, 2) := by decide +kernel
theorem dL_holds_271 : decode cL_holds 271 = .ok (.iconst 2, 1) := by decide +kernel
theorem dL_holds_272 : decode cL_holds 272 = .ok (.iload 10, 2) := by decide +kernel
theorem dL_holds_274 : decode cL_holds 274 = .ok (.imul, 1) := by decide +kernel
theorem dL_holds_275 : decode cL_holds 275 = .ok (.iadd, 1) := by decide +kernel
theorem dL_holds_276 : decode cL_holds 276 = .ok (.ldc 175, 2) := by decide +kernel
theorem dL_holds_278 : decode cL_holds 278 = .ok (.invokestatic 165, 3) := by decide +kernel
theorem dL_holds_281 : decode cL_holds 281 = .ok (.invokestatic 176, 3) := by decide +kernel
theorem dL_holds_284 : decode cL_holds 284 = .ok (.ifCond .eq 44, 3) := by decide +kernel
theorem dL_holds_287 : decode cL_holds 287 = .ok (.iload 10, 2) := by decide +kernel
theorem dL_holds_289 : decode cL_holds 289 = .ok (.iconst 3, 1) := by decide +kernel
theorem dL_holds_290 : decode cL_holds 290 = .ok (.irem, 1) := by decide +kernel
theorem dL_holds_291 : decode cL_holds 291 = .ok (.iconst 2, 1) := by decide +kernel
theorem dL_holds_292 : decode cL_holds 292 = .ok (.if_icmp .lt 32, 3) := by decide +kernel
theorem dL_holds_295 : decode cL_holds 295 = .ok (.aload_n 1, 1) := by decide +kernel
theorem dL_holds_296 : decode cL_holds 296 = .ok (.aload 4, 2) := by decide +kernel
theorem dL_holds_298 : decode cL_holds 298 = .ok (.aload 5, 2) := by decide +kernel
theorem dL_holds_300 : decode cL_holds 300 = .ok (.aload 6, 2) := by decide +kernel
theorem dL_holds_302 : decode cL_holds 302 = .ok (.aload 7, 2) := by decide +kernel
theorem dL_holds_304 : decode cL_holds 304 = .ok (.aload 8, 2) := by decide +kernel
theorem dL_holds_306 : decode cL_holds 306 = .ok (.aload_n 0, 1) := by decide +kernel
theorem dL_holds_307 : decode cL_holds 307 = .ok (.sipush 300, 3) := by decide +kernel
theorem dL_holds_310 : decode cL_holds 310 = .ok (.iload 10, 2) := by decide +kernel
theorem dL_holds_312 : decode cL_holds 312 = .ok (.iadd, 1) := by decide +kernel
theorem dL_holds_313 : decode cL_holds 313 = .ok (.ldc 180, 2) := by decide +kernel
theorem dL_holds_315 : decode cL_holds 315 = .ok (.invokestatic 165, 3) := by decide +kernel
theorem dL_holds_318 : decode cL_holds 318 = .ok (.invokestatic 181, 3) := by decide +kernel
theorem dL_holds_321 : decode cL_holds 321 = .ok (.ifCond .eq 7, 3) := by decide +kernel
theorem dL_holds_324 : decode cL_holds 324 = .ok (.iconst 1, 1) := by decide +kernel
theorem dL_holds_325 : decode cL_holds 325 = .ok (.goto 4, 3) := by decide +kernel
theorem dL_holds_328 : decode cL_holds 328 = .ok (.iconst 0, 1) := by decide +kernel
theorem dL_holds_329 : decode cL_holds 329 = .ok (.istore 9, 2) := by decide +kernel
theorem dL_holds_331 : decode cL_holds 331 = .ok (.iinc 10 1, 3) := by decide +kernel
theorem dL_holds_334 : decode cL_holds 334 = .ok (.goto (-104), 3) := by decide +kernel
theorem dL_holds_337 : decode cL_holds 337 = .ok (.iload 9, 2) := by decide +kernel
theorem dL_holds_339 : decode cL_holds 339 = .ok (.ifCond .eq 25, 3) := by decide +kernel
theorem dL_holds_342 : decode cL_holds 342 = .ok (.aload_n 1, 1) := by decide +kernel
theorem dL_holds_343 : decode cL_holds 343 = .ok (.aload 4, 2) := by decide +kernel
theorem dL_holds_345 : decode cL_holds 345 = .ok (.aload 5, 2) := by decide +kernel
theorem dL_holds_347 : decode cL_holds 347 = .ok (.aload 6, 2) := by decide +kernel
theorem dL_holds_349 : decode cL_holds 349 = .ok (.aload 7, 2) := by decide +kernel
theorem dL_holds_351 : decode cL_holds 351 = .ok (.aload 8, 2) := by decide +kernel
theorem dL_holds_353 : decode cL_holds 353 = .ok (.iconst 0, 1) := by decide +kernel
theorem dL_holds_354 : decode cL_holds 354 = .ok (.invokestatic 181, 3) := by decide +kernel
theorem dL_holds_357 : decode cL_holds 357 = .ok (.ifCond .eq 7, 3) := by decide +kernel
theorem dL_holds_360 : decode cL_holds 360 = .ok (.iconst 1, 1) := by decide +kernel
theorem dL_holds_361 : decode cL_holds 361 = .ok (.goto 4, 3) := by decide +kernel
theorem dL_holds_364 : decode cL_holds 364 = .ok (.iconst 0, 1) := by decide +kernel
theorem dL_holds_365 : decode cL_holds 365 = .ok (.ireturn, 1) := by decide +kernel
theorem dL_isHeld_0 : decode cL_isHeld 0 = .ok (.aload_n 0, 1) := by decide +kernel
theorem dL_isHeld_1 : decode cL_isHeld 1 = .ok (.invokestatic 185, 3) := by decide +kernel
theorem dL_isHeld_4 : decode cL_isHeld 4 = .ok (.ireturn, 1) := by decide +kernel
theorem dL_isHeld_5 : decode cL_isHeld 5 = .ok (.astore_n 1, 1) := by decide +kernel
theorem dL_isHeld_6 : decode cL_isHeld 6 = .ok (.iconst 0, 1) := by decide +kernel
theorem dL_isHeld_7 : decode cL_isHeld 7 = .ok (.ireturn, 1) := by decide +kernel
theorem dL_isHeld_8 : decode cL_isHeld 8 = .ok (.astore_n 1, 1) := by decide +kernel
theorem dL_isHeld_9 : decode cL_isHeld 9 = .ok (.iconst 0, 1) := by decide +kernel
theorem dL_isHeld_10 : decode cL_isHeld 10 = .ok (.ireturn, 1) := by decide +kernel
theorem dL_isHeld_11 : decode cL_isHeld 11 = .ok (.astore_n 1, 1) := by decide +kernel
theorem dL_isHeld_12 : decode cL_isHeld 12 = .ok (.iconst 0, 1) := by decide +kernel
theorem dL_isHeld_13 : decode cL_isHeld 13 = .ok (.ireturn, 1) := by decide +kernel
theorem dL_law_0 : decode cL_law 0 = .ok (.aload_n 0, 1) := by decide +kernel
theorem dL_law_1 : decode cL_law 1 = .ok (.invokestatic 193, 3) := by decide +kernel
theorem dL_law_4 : decode cL_law 4 = .ok (.ireturn, 1) := by decide +kernel
