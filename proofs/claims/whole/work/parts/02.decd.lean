theorem dX9_boxes_106 : decode cX9_boxes 106 = .ok (.iload 5, 2) := by decide +kernel
theorem dX9_boxes_108 : decode cX9_boxes 108 = .ok (.iaload, 1) := by decide +kernel
theorem dX9_boxes_109 : decode cX9_boxes 109 = .ok (.iastore, 1) := by decide +kernel
theorem dX9_boxes_110 : decode cX9_boxes 110 = .ok (.goto 62, 3) := by decide +kernel
theorem dX9_boxes_113 : decode cX9_boxes 113 = .ok (.iload_n 2, 1) := by decide +kernel
theorem dX9_boxes_114 : decode cX9_boxes 114 = .ok (.bipush 13, 2) := by decide +kernel
theorem dX9_boxes_116 : decode cX9_boxes 116 = .ok (.if_icmp .ne 28, 3) := by decide +kernel
theorem dX9_boxes_119 : decode cX9_boxes 119 = .ok (.aload_n 0, 1) := by decide +kernel
theorem dX9_boxes_120 : decode cX9_boxes 120 = .ok (.getfield 13, 3) := by decide +kernel
theorem dX9_boxes_123 : decode cX9_boxes 123 = .ok (.iload 5, 2) := by decide +kernel
theorem dX9_boxes_125 : decode cX9_boxes 125 = .ok (.dup2, 1) := by decide +kernel
theorem dX9_boxes_126 : decode cX9_boxes 126 = .ok (.iaload, 1) := by decide +kernel
theorem dX9_boxes_127 : decode cX9_boxes 127 = .ok (.aload_n 0, 1) := by decide +kernel
theorem dX9_boxes_128 : decode cX9_boxes 128 = .ok (.getfield 95, 3) := by decide +kernel
theorem dX9_boxes_131 : decode cX9_boxes 131 = .ok (.bipush 6, 2) := by decide +kernel
theorem dX9_boxes_133 : decode cX9_boxes 133 = .ok (.iload_n 1, 1) := by decide +kernel
theorem dX9_boxes_134 : decode cX9_boxes 134 = .ok (.imul, 1) := by decide +kernel
theorem dX9_boxes_135 : decode cX9_boxes 135 = .ok (.iload 4, 2) := by decide +kernel
theorem dX9_boxes_137 : decode cX9_boxes 137 = .ok (.iadd, 1) := by decide +kernel
theorem dX9_boxes_138 : decode cX9_boxes 138 = .ok (.iaload, 1) := by decide +kernel
theorem dX9_boxes_139 : decode cX9_boxes 139 = .ok (.iadd, 1) := by decide +kernel
theorem dX9_boxes_140 : decode cX9_boxes 140 = .ok (.iastore, 1) := by decide +kernel
theorem dX9_boxes_141 : decode cX9_boxes 141 = .ok (.goto 31, 3) := by decide +kernel
theorem dX9_boxes_144 : decode cX9_boxes 144 = .ok (.iload_n 2, 1) := by decide +kernel
theorem dX9_boxes_145 : decode cX9_boxes 145 = .ok (.bipush 14, 2) := by decide +kernel
theorem dX9_boxes_147 : decode cX9_boxes 147 = .ok (.if_icmp .ne 18, 3) := by decide +kernel
theorem dX9_boxes_150 : decode cX9_boxes 150 = .ok (.aload_n 0, 1) := by decide +kernel
theorem dX9_boxes_151 : decode cX9_boxes 151 = .ok (.getfield 95, 3) := by decide +kernel
theorem dX9_boxes_154 : decode cX9_boxes 154 = .ok (.iload_n 3, 1) := by decide +kernel
theorem dX9_boxes_155 : decode cX9_boxes 155 = .ok (.aload_n 0, 1) := by decide +kernel
theorem dX9_boxes_156 : decode cX9_boxes 156 = .ok (.iload 5, 2) := by decide +kernel
theorem dX9_boxes_158 : decode cX9_boxes 158 = .ok (.invokevirtual 139, 3) := by decide +kernel
theorem dX9_boxes_161 : decode cX9_boxes 161 = .ok (.iastore, 1) := by decide +kernel
theorem dX9_boxes_162 : decode cX9_boxes 162 = .ok (.goto 10, 3) := by decide +kernel
theorem dX9_boxes_165 : decode cX9_boxes 165 = .ok (.aload_n 0, 1) := by decide +kernel
theorem dX9_boxes_166 : decode cX9_boxes 166 = .ok (.getfield 95, 3) := by decide +kernel
theorem dX9_boxes_169 : decode cX9_boxes 169 = .ok (.iload_n 3, 1) := by decide +kernel
theorem dX9_boxes_170 : decode cX9_boxes 170 = .ok (.iconst 5, 1) := by decide +kernel
theorem dX9_boxes_171 : decode cX9_boxes 171 = .ok (.iastore, 1) := by decide +kernel
theorem dX9_boxes_172 : decode cX9_boxes 172 = .ok (.return_, 1) := by decide +kernel
theorem dX9_rows_0 : decode cX9_rows 0 = .ok (.iload_n 2, 1) := by decide +kernel
theorem dX9_rows_1 : decode cX9_rows 1 = .ok (.bipush 21, 2) := by decide +kernel
theorem dX9_rows_3 : decode cX9_rows 3 = .ok (.if_icmp .ne 38, 3) := by decide +kernel
theorem dX9_rows_6 : decode cX9_rows 6 = .ok (.aload_n 0, 1) := by decide +kernel
theorem dX9_rows_7 : decode cX9_rows 7 = .ok (.aload_n 0, 1) := by decide +kernel
theorem dX9_rows_8 : decode cX9_rows 8 = .ok (.getfield 98, 3) := by decide +kernel
theorem dX9_rows_11 : decode cX9_rows 11 = .ok (.iload_n 3, 1) := by decide +kernel
theorem dX9_rows_12 : decode cX9_rows 12 = .ok (.iaload, 1) := by decide +kernel
theorem dX9_rows_13 : decode cX9_rows 13 = .ok (.aload_n 0, 1) := by decide +kernel
theorem dX9_rows_14 : decode cX9_rows 14 = .ok (.getfield 98, 3) := by decide +kernel
theorem dX9_rows_17 : decode cX9_rows 17 = .ok (.bipush 6, 2) := by decide +kernel
theorem dX9_rows_19 : decode cX9_rows 19 = .ok (.iload_n 1, 1) := by decide +kernel
theorem dX9_rows_20 : decode cX9_rows 20 = .ok (.imul, 1) := by decide +kernel
theorem dX9_rows_21 : decode cX9_rows 21 = .ok (.iload 4, 2) := by decide +kernel
theorem dX9_rows_23 : decode cX9_rows 23 = .ok (.iadd, 1) := by decide +kernel
theorem dX9_rows_24 : decode cX9_rows 24 = .ok (.iaload, 1) := by decide +kernel
theorem dX9_rows_25 : decode cX9_rows 25 = .ok (.aload_n 0, 1) := by decide +kernel
theorem dX9_rows_26 : decode cX9_rows 26 = .ok (.getfield 95, 3) := by decide +kernel
theorem dX9_rows_29 : decode cX9_rows 29 = .ok (.bipush 6, 2) := by decide +kernel
theorem dX9_rows_31 : decode cX9_rows 31 = .ok (.iload_n 1, 1) := by decide +kernel
theorem dX9_rows_32 : decode cX9_rows 32 = .ok (.imul, 1) := by decide +kernel
theorem dX9_rows_33 : decode cX9_rows 33 = .ok (.iload 5, 2) := by decide +kernel
theorem dX9_rows_35 : decode cX9_rows 35 = .ok (.iadd, 1) := by decide +kernel
theorem dX9_rows_36 : decode cX9_rows 36 = .ok (.iaload, 1) := by decide +kernel
theorem dX9_rows_37 : decode cX9_rows 37 = .ok (.invokevirtual 248, 3) := by decide +kernel
theorem dX9_rows_40 : decode cX9_rows 40 = .ok (.return_, 1) := by decide +kernel
theorem dX9_rows_41 : decode cX9_rows 41 = .ok (.iload_n 2, 1) := by decide +kernel
theorem dX9_rows_42 : decode cX9_rows 42 = .ok (.bipush 18, 2) := by decide +kernel
theorem dX9_rows_44 : decode cX9_rows 44 = .ok (.if_icmp .eq 9, 3) := by decide +kernel
theorem dX9_rows_47 : decode cX9_rows 47 = .ok (.iload_n 2, 1) := by decide +kernel
theorem dX9_rows_48 : decode cX9_rows 48 = .ok (.bipush 20, 2) := by decide +kernel
theorem dX9_rows_50 : decode cX9_rows 50 = .ok (.if_icmp .ne 7, 3) := by decide +kernel
theorem dX9_rows_53 : decode cX9_rows 53 = .ok (.iconst 1, 1) := by decide +kernel
theorem dX9_rows_54 : decode cX9_rows 54 = .ok (.goto 4, 3) := by decide +kernel
theorem dX9_rows_57 : decode cX9_rows 57 = .ok (.iconst 0, 1) := by decide +kernel
theorem dX9_rows_58 : decode cX9_rows 58 = .ok (.istore 6, 2) := by decide +kernel
theorem dX9_rows_60 : decode cX9_rows 60 = .ok (.iload 6, 2) := by decide +kernel
theorem dX9_rows_62 : decode cX9_rows 62 = .ok (.ifCond .eq 12, 3) := by decide +kernel
theorem dX9_rows_65 : decode cX9_rows 65 = .ok (.aload_n 0, 1) := by decide +kernel
theorem dX9_rows_66 : decode cX9_rows 66 = .ok (.getfield 98, 3) := by decide +kernel
theorem dX9_rows_69 : decode cX9_rows 69 = .ok (.iload_n 3, 1) := by decide +kernel
theorem dX9_rows_70 : decode cX9_rows 70 = .ok (.iaload, 1) := by decide +kernel
theorem dX9_rows_71 : decode cX9_rows 71 = .ok (.goto 15, 3) := by decide +kernel
theorem dX9_rows_74 : decode cX9_rows 74 = .ok (.aload_n 0, 1) := by decide +kernel
theorem dX9_rows_75 : decode cX9_rows 75 = .ok (.getfield 98, 3) := by decide +kernel
theorem dX9_rows_78 : decode cX9_rows 78 = .ok (.bipush 6, 2) := by decide +kernel
theorem dX9_rows_80 : decode cX9_rows 80 = .ok (.iload_n 1, 1) := by decide +kernel
theorem dX9_rows_81 : decode cX9_rows 81 = .ok (.imul, 1) := by decide +kernel
theorem dX9_rows_82 : decode cX9_rows 82 = .ok (.iload 4, 2) := by decide +kernel
theorem dX9_rows_84 : decode cX9_rows 84 = .ok (.iadd, 1) := by decide +kernel
theorem dX9_rows_85 : decode cX9_rows 85 = .ok (.iaload, 1) := by decide +kernel
theorem dX9_rows_86 : decode cX9_rows 86 = .ok (.istore 7, 2) := by decide +kernel
theorem dX9_rows_88 : decode cX9_rows 88 = .ok (.iload_n 2, 1) := by decide +kernel
theorem dX9_rows_89 : decode cX9_rows 89 = .ok (.bipush 16, 2) := by decide +kernel
theorem dX9_rows_91 : decode cX9_rows 91 = .ok (.if_icmp .ne 7, 3) := by decide +kernel
theorem dX9_rows_94 : decode cX9_rows 94 = .ok (.iconst 0, 1) := by decide +kernel
theorem dX9_rows_95 : decode cX9_rows 95 = .ok (.goto 35, 3) := by decide +kernel
theorem dX9_rows_98 : decode cX9_rows 98 = .ok (.iload 6, 2) := by decide +kernel
theorem dX9_rows_100 : decode cX9_rows 100 = .ok (.ifCond .eq 18, 3) := by decide +kernel
theorem dX9_rows_103 : decode cX9_rows 103 = .ok (.aload_n 0, 1) := by decide +kernel
theorem dX9_rows_104 : decode cX9_rows 104 = .ok (.getfield 95, 3) := by decide +kernel
theorem dX9_rows_107 : decode cX9_rows 107 = .ok (.bipush 6, 2) := by decide +kernel
theorem dX9_rows_109 : decode cX9_rows 109 = .ok (.iload_n 1, 1) := by decide +kernel
theorem dX9_rows_110 : decode cX9_rows 110 = .ok (.imul, 1) := by decide +kernel
theorem dX9_rows_111 : decode cX9_rows 111 = .ok (.iload 4, 2) := by decide +kernel
theorem dX9_rows_113 : decode cX9_rows 113 = .ok (.iadd, 1) := by decide +kernel
theorem dX9_rows_114 : decode cX9_rows 114 = .ok (.iaload, 1) := by decide +kernel
theorem dX9_rows_115 : decode cX9_rows 115 = .ok (.goto 15, 3) := by decide +kernel
theorem dX9_rows_118 : decode cX9_rows 118 = .ok (.aload_n 0, 1) := by decide +kernel
theorem dX9_rows_119 : decode cX9_rows 119 = .ok (.getfield 95, 3) := by decide +kernel
theorem dX9_rows_122 : decode cX9_rows 122 = .ok (.bipush 6, 2) := by decide +kernel
theorem dX9_rows_124 : decode cX9_rows 124 = .ok (.iload_n 1, 1) := by decide +kernel
theorem dX9_rows_125 : decode cX9_rows 125 = .ok (.imul, 1) := by decide +kernel
theorem dX9_rows_126 : decode cX9_rows 126 = .ok (.iload 5, 2) := by decide +kernel
theorem dX9_rows_128 : decode cX9_rows 128 = .ok (.iadd, 1) := by decide +kernel
theorem dX9_rows_129 : decode cX9_rows 129 = .ok (.iaload, 1) := by decide +kernel
theorem dX9_rows_130 : decode cX9_rows 130 = .ok (.istore 8, 2) := by decide +kernel
theorem dX9_rows_132 : decode cX9_rows 132 = .ok (.iload 7, 2) := by decide +kernel
theorem dX9_rows_134 : decode cX9_rows 134 = .ok (.bipush (-4), 2) := by decide +kernel
theorem dX9_rows_136 : decode cX9_rows 136 = .ok (.if_icmp .eq 65, 3) := by decide +kernel
theorem dX9_rows_139 : decode cX9_rows 139 = .ok (.iload_n 2, 1) := by decide +kernel
theorem dX9_rows_140 : decode cX9_rows 140 = .ok (.bipush 16, 2) := by decide +kernel
theorem dX9_rows_142 : decode cX9_rows 142 = .ok (.if_icmp .ne 17, 3) := by decide +kernel
theorem dX9_rows_145 : decode cX9_rows 145 = .ok (.aload_n 0, 1) := by decide +kernel
theorem dX9_rows_146 : decode cX9_rows 146 = .ok (.getfield 7, 3) := by decide +kernel
theorem dX9_rows_149 : decode cX9_rows 149 = .ok (.iload 7, 2) := by decide +kernel
theorem dX9_rows_151 : decode cX9_rows 151 = .ok (.iaload, 1) := by decide +kernel
theorem dX9_rows_152 : decode cX9_rows 152 = .ok (.iconst 3, 1) := by decide +kernel
theorem dX9_rows_153 : decode cX9_rows 153 = .ok (.if_icmp .le 52, 3) := by decide +kernel
theorem dX9_rows_156 : decode cX9_rows 156 = .ok (.goto 45, 3) := by decide +kernel
theorem dX9_rows_159 : decode cX9_rows 159 = .ok (.iload_n 2, 1) := by decide +kernel
theorem dX9_rows_160 : decode cX9_rows 160 = .ok (.bipush 19, 2) := by decide +kernel
theorem dX9_rows_162 : decode cX9_rows 162 = .ok (.if_icmp .ge 28, 3) := by decide +kernel
theorem dX9_rows_165 : decode cX9_rows 165 = .ok (.aload_n 0, 1) := by decide +kernel
theorem dX9_rows_166 : decode cX9_rows 166 = .ok (.getfield 7, 3) := by decide +kernel
theorem dX9_rows_169 : decode cX9_rows 169 = .ok (.iload 7, 2) := by decide +kernel
theorem dX9_rows_171 : decode cX9_rows 171 = .ok (.iaload, 1) := by decide +kernel
theorem dX9_rows_172 : decode cX9_rows 172 = .ok (.iconst 4, 1) := by decide +kernel
theorem dX9_rows_173 : decode cX9_rows 173 = .ok (.if_icmp .eq 28, 3) := by decide +kernel
theorem dX9_rows_176 : decode cX9_rows 176 = .ok (.aload_n 0, 1) := by decide +kernel
theorem dX9_rows_177 : decode cX9_rows 177 = .ok (.getfield 7, 3) := by decide +kernel
theorem dX9_rows_180 : decode cX9_rows 180 = .ok (.iload 7, 2) := by decide +kernel
theorem dX9_rows_182 : decode cX9_rows 182 = .ok (.iaload, 1) := by decide +kernel
theorem dX9_rows_183 : decode cX9_rows 183 = .ok (.iconst 5, 1) := by decide +kernel
theorem dX9_rows_184 : decode cX9_rows 184 = .ok (.if_icmp .ne 21, 3) := by decide +kernel
theorem dX9_rows_187 : decode cX9_rows 187 = .ok (.goto 14, 3) := by decide +kernel
theorem dX9_rows_190 : decode cX9_rows 190 = .ok (.aload_n 0, 1) := by decide +kernel
theorem dX9_rows_191 : decode cX9_rows 191 = .ok (.getfield 7, 3) := by decide +kernel
theorem dX9_rows_194 : decode cX9_rows 194 = .ok (.iload 7, 2) := by decide +kernel
theorem dX9_rows_196 : decode cX9_rows 196 = .ok (.iaload, 1) := by decide +kernel
theorem dX9_rows_197 : decode cX9_rows 197 = .ok (.iconst 5, 1) := by decide +kernel
theorem dX9_rows_198 : decode cX9_rows 198 = .ok (.if_icmp .le 7, 3) := by decide +kernel
theorem dX9_rows_201 : decode cX9_rows 201 = .ok (.iconst 1, 1) := by decide +kernel
theorem dX9_rows_202 : decode cX9_rows 202 = .ok (.goto 4, 3) := by decide +kernel
theorem dX9_rows_205 : decode cX9_rows 205 = .ok (.iconst 0, 1) := by decide +kernel
theorem dX9_rows_206 : decode cX9_rows 206 = .ok (.istore 9, 2) := by decide +kernel
theorem dX9_rows_208 : decode cX9_rows 208 = .ok (.iload 9, 2) := by decide +kernel
theorem dX9_rows_210 : decode cX9_rows 210 = .ok (.ifCond .ne 11, 3) := by decide +kernel
theorem dX9_rows_213 : decode cX9_rows 213 = .ok (.aload_n 0, 1) := by decide +kernel
theorem dX9_rows_214 : decode cX9_rows 214 = .ok (.iconst 3, 1) := by decide +kernel
theorem dX9_rows_215 : decode cX9_rows 215 = .ok (.invokevirtual 245, 3) := by decide +kernel
theorem dX9_rows_218 : decode cX9_rows 218 = .ok (.goto 238, 3) := by decide +kernel
theorem dX9_rows_221 : decode cX9_rows 221 = .ok (.iload 7, 2) := by decide +kernel
theorem dX9_rows_223 : decode cX9_rows 223 = .ok (.bipush (-4), 2) := by decide +kernel
theorem dX9_rows_225 : decode cX9_rows 225 = .ok (.if_icmp .ne 11, 3) := by decide +kernel
theorem dX9_rows_228 : decode cX9_rows 228 = .ok (.aload_n 0, 1) := by decide +kernel
theorem dX9_rows_229 : decode cX9_rows 229 = .ok (.iconst 1, 1) := by decide +kernel
theorem dX9_rows_230 : decode cX9_rows 230 = .ok (.invokevirtual 245, 3) := by decide +kernel
theorem dX9_rows_233 : decode cX9_rows 233 = .ok (.goto 223, 3) := by decide +kernel
theorem dX9_rows_236 : decode cX9_rows 236 = .ok (.iload_n 2, 1) := by decide +kernel
theorem dX9_rows_237 : decode cX9_rows 237 = .ok (.bipush 16, 2) := by decide +kernel
theorem dX9_rows_239 : decode cX9_rows 239 = .ok (.if_icmp .ne 19, 3) := by decide +kernel
theorem dX9_rows_242 : decode cX9_rows 242 = .ok (.aload_n 0, 1) := by decide +kernel
theorem dX9_rows_243 : decode cX9_rows 243 = .ok (.getfield 95, 3) := by decide +kernel
theorem dX9_rows_246 : decode cX9_rows 246 = .ok (.iload_n 3, 1) := by decide +kernel
theorem dX9_rows_247 : decode cX9_rows 247 = .ok (.aload_n 0, 1) := by decide +kernel
theorem dX9_rows_248 : decode cX9_rows 248 = .ok (.getfield 16, 3) := by decide +kernel
theorem dX9_rows_251 : decode cX9_rows 251 = .ok (.iload 7, 2) := by decide +kernel
theorem dX9_rows_253 : decode cX9_rows 253 = .ok (.iaload, 1) := by decide +kernel
theorem dX9_rows_254 : decode cX9_rows 254 = .ok (.iastore, 1) := by decide +kernel
theorem dX9_rows_255 : decode cX9_rows 255 = .ok (.goto 201, 3) := by decide +kernel
theorem dX9_rows_258 : decode cX9_rows 258 = .ok (.iload 8, 2) := by decide +kernel
theorem dX9_rows_260 : decode cX9_rows 260 = .ok (.iconst 0, 1) := by decide +kernel
theorem dX9_rows_261 : decode cX9_rows 261 = .ok (.aload_n 0, 1) := by decide +kernel
theorem dX9_rows_262 : decode cX9_rows 262 = .ok (.getfield 16, 3) := by decide +kernel
theorem dX9_rows_265 : decode cX9_rows 265 = .ok (.iload 7, 2) := by decide +kernel
theorem dX9_rows_267 : decode cX9_rows 267 = .ok (.iaload, 1) := by decide +kernel
theorem dX9_rows_268 : decode cX9_rows 268 = .ok (.iconst 1, 1) := by decide +kernel
theorem dX9_rows_269 : decode cX9_rows 269 = .ok (.isub, 1) := by decide +kernel
theorem dX9_rows_270 : decode cX9_rows 270 = .ok (.invokestatic 114, 3) := by decide +kernel
theorem dX9_rows_273 : decode cX9_rows 273 = .ok (.ifCond .ne 11, 3) := by decide +kernel
theorem dX9_rows_276 : decode cX9_rows 276 = .ok (.aload_n 0, 1) := by decide +kernel
theorem dX9_rows_277 : decode cX9_rows 277 = .ok (.iconst 2, 1) := by decide +kernel
theorem dX9_rows_278 : decode cX9_rows 278 = .ok (.invokevirtual 245, 3) := by decide +kernel
theorem dX9_rows_281 : decode cX9_rows 281 = .ok (.goto 175, 3) := by decide +kernel
theorem dX9_rows_284 : decode cX9_rows 284 = .ok (.iload_n 2, 1) := by decide +kernel
theorem dX9_rows_285 : decode cX9_rows 285 = .ok (.bipush 17, 2) := by decide +kernel
theorem dX9_rows_287 : decode cX9_rows 287 = .ok (.if_icmp .ne 25, 3) := by decide +kernel
theorem dX9_rows_290 : decode cX9_rows 290 = .ok (.aload_n 0, 1) := by decide +kernel
theorem dX9_rows_291 : decode cX9_rows 291 = .ok (.getfield 95, 3) := by decide +kernel
theorem dX9_rows_294 : decode cX9_rows 294 = .ok (.iload_n 3, 1) := by decide +kernel
theorem dX9_rows_295 : decode cX9_rows 295 = .ok (.aload_n 0, 1) := by decide +kernel
theorem dX9_rows_296 : decode cX9_rows 296 = .ok (.getfield 19, 3) := by decide +kernel
theorem dX9_rows_299 : decode cX9_rows 299 = .ok (.bipush 12, 2) := by decide +kernel
theorem dX9_rows_301 : decode cX9_rows 301 = .ok (.iload 7, 2) := by decide +kernel
theorem dX9_rows_303 : decode cX9_rows 303 = .ok (.imul, 1) := by decide +kernel
theorem dX9_rows_304 : decode cX9_rows 304 = .ok (.iload 8, 2) := by decide +kernel
theorem dX9_rows_306 : decode cX9_rows 306 = .ok (.iadd, 1) := by decide +kernel
theorem dX9_rows_307 : decode cX9_rows 307 = .ok (.iaload, 1) := by decide +kernel
theorem dX9_rows_308 : decode cX9_rows 308 = .ok (.iastore, 1) := by decide +kernel
theorem dX9_rows_309 : decode cX9_rows 309 = .ok (.goto 147, 3) := by decide +kernel
theorem dX9_rows_312 : decode cX9_rows 312 = .ok (.iload_n 2, 1) := by decide +kernel
theorem dX9_rows_313 : decode cX9_rows 313 = .ok (.bipush 19, 2) := by decide +kernel
theorem dX9_rows_315 : decode cX9_rows 315 = .ok (.if_icmp .ne 25, 3) := by decide +kernel
theorem dX9_rows_318 : decode cX9_rows 318 = .ok (.aload_n 0, 1) := by decide +kernel
theorem dX9_rows_319 : decode cX9_rows 319 = .ok (.getfield 98, 3) := by decide +kernel
theorem dX9_rows_322 : decode cX9_rows 322 = .ok (.iload_n 3, 1) := by decide +kernel
theorem dX9_rows_323 : decode cX9_rows 323 = .ok (.aload_n 0, 1) := by decide +kernel
theorem dX9_rows_324 : decode cX9_rows 324 = .ok (.getfield 19, 3) := by decide +kernel
theorem dX9_rows_327 : decode cX9_rows 327 = .ok (.bipush 12, 2) := by decide +kernel
theorem dX9_rows_329 : decode cX9_rows 329 = .ok (.iload 7, 2) := by decide +kernel
theorem dX9_rows_331 : decode cX9_rows 331 = .ok (.imul, 1) := by decide +kernel
theorem dX9_rows_332 : decode cX9_rows 332 = .ok (.iload 8, 2) := by decide +kernel
theorem dX9_rows_334 : decode cX9_rows 334 = .ok (.iadd, 1) := by decide +kernel
theorem dX9_rows_335 : decode cX9_rows 335 = .ok (.iaload, 1) := by decide +kernel
theorem dX9_rows_336 : decode cX9_rows 336 = .ok (.iastore, 1) := by decide +kernel
theorem dX9_rows_337 : decode cX9_rows 337 = .ok (.goto 119, 3) := by decide +kernel
theorem dX9_rows_340 : decode cX9_rows 340 = .ok (.iload_n 2, 1) := by decide +kernel
theorem dX9_rows_341 : decode cX9_rows 341 = .ok (.bipush 18, 2) := by decide +kernel
theorem dX9_rows_343 : decode cX9_rows 343 = .ok (.if_icmp .ne 52, 3) := by decide +kernel
theorem dX9_rows_346 : decode cX9_rows 346 = .ok (.aload_n 0, 1) := by decide +kernel
theorem dX9_rows_347 : decode cX9_rows 347 = .ok (.getfield 95, 3) := by decide +kernel
theorem dX9_rows_350 : decode cX9_rows 350 = .ok (.bipush 6, 2) := by decide +kernel
theorem dX9_rows_352 : decode cX9_rows 352 = .ok (.iload_n 1, 1) := by decide +kernel
theorem dX9_rows_353 : decode cX9_rows 353 = .ok (.imul, 1) := by decide +kernel
theorem dX9_rows_354 : decode cX9_rows 354 = .ok (.iload 5, 2) := by decide +kernel
theorem dX9_rows_356 : decode cX9_rows 356 = .ok (.iadd, 1) := by decide +kernel
theorem dX9_rows_357 : decode cX9_rows 357 = .ok (.iaload, 1) := by decide +kernel
theorem dX9_rows_358 : decode cX9_rows 358 = .ok (.istore 10, 2) := by decide +kernel
theorem dX9_rows_360 : decode cX9_rows 360 = .ok (.aload_n 0, 1) := by decide +kernel
theorem dX9_rows_361 : decode cX9_rows 361 = .ok (.getfield 19, 3) := by decide +kernel
theorem dX9_rows_364 : decode cX9_rows 364 = .ok (.bipush 12, 2) := by decide +kernel
theorem dX9_rows_366 : decode cX9_rows 366 = .ok (.iload 7, 2) := by decide +kernel
theorem dX9_rows_368 : decode cX9_rows 368 = .ok (.imul, 1) := by decide +kernel
theorem dX9_rows_369 : decode cX9_rows 369 = .ok (.iload 8, 2) := by decide +kernel
theorem dX9_rows_371 : decode cX9_rows 371 = .ok (.iadd, 1) := by decide +kernel
theorem dX9_rows_372 : decode cX9_rows 372 = .ok (.aload_n 0, 1) := by decide +kernel
theorem dX9_rows_373 : decode cX9_rows 373 = .ok (.getfield 7, 3) := by decide +kernel
theorem dX9_rows_376 : decode cX9_rows 376 = .ok (.iload 7, 2) := by decide +kernel
theorem dX9_rows_378 : decode cX9_rows 378 = .ok (.iaload, 1) := by decide +kernel
theorem dX9_rows_379 : decode cX9_rows 379 = .ok (.iconst 5, 1) := by decide +kernel
theorem dX9_rows_380 : decode cX9_rows 380 = .ok (.if_icmp .ne 9, 3) := by decide +kernel
theorem dX9_rows_383 : decode cX9_rows 383 = .ok (.iload 10, 2) := by decide +kernel
theorem dX9_rows_385 : decode cX9_rows 385 = .ok (.i2b, 1) := by decide +kernel
theorem dX9_rows_386 : decode cX9_rows 386 = .ok (.goto 5, 3) := by decide +kernel
theorem dX9_rows_389 : decode cX9_rows 389 = .ok (.iload 10, 2) := by decide +kernel
theorem dX9_rows_391 : decode cX9_rows 391 = .ok (.iastore, 1) := by decide +kernel
theorem dX9_rows_392 : decode cX9_rows 392 = .ok (.goto 64, 3) := by decide +kernel
theorem dX9_rows_395 : decode cX9_rows 395 = .ok (.aload_n 0, 1) := by decide +kernel
theorem dX9_rows_396 : decode cX9_rows 396 = .ok (.aload_n 0, 1) := by decide +kernel
theorem dX9_rows_397 : decode cX9_rows 397 = .ok (.getfield 7, 3) := by decide +kernel
theorem dX9_rows_400 : decode cX9_rows 400 = .ok (.iload 7, 2) := by decide +kernel
theorem dX9_rows_402 : decode cX9_rows 402 = .ok (.iaload, 1) := by decide +kernel
theorem dX9_rows_403 : decode cX9_rows 403 = .ok (.bipush 6, 2) := by decide +kernel
theorem dX9_rows_405 : decode cX9_rows 405 = .ok (.aload_n 0, 1) := by decide +kernel
theorem dX9_rows_406 : decode cX9_rows 406 = .ok (.getfield 98, 3) := by decide +kernel
theorem dX9_rows_409 : decode cX9_rows 409 = .ok (.bipush 6, 2) := by decide +kernel
theorem dX9_rows_411 : decode cX9_rows 411 = .ok (.iload_n 1, 1) := by decide +kernel
theorem dX9_rows_412 : decode cX9_rows 412 = .ok (.imul, 1) := by decide +kernel
theorem dX9_rows_413 : decode cX9_rows 413 = .ok (.iload 5, 2) := by decide +kernel
theorem dX9_rows_415 : decode cX9_rows 415 = .ok (.iadd, 1) := by decide +kernel
theorem dX9_rows_416 : decode cX9_rows 416 = .ok (.iaload, 1) := by decide +kernel
theorem dX9_rows_417 : decode cX9_rows 417 = .ok (.invokevirtual 251, 3) := by decide +kernel
theorem dX9_rows_420 : decode cX9_rows 420 = .ok (.ifCond .ne 11, 3) := by decide +kernel
theorem dX9_rows_423 : decode cX9_rows 423 = .ok (.aload_n 0, 1) := by decide +kernel
theorem dX9_rows_424 : decode cX9_rows 424 = .ok (.iconst 4, 1) := by decide +kernel
theorem dX9_rows_425 : decode cX9_rows 425 = .ok (.invokevirtual 245, 3) := by decide +kernel
theorem dX9_rows_428 : decode cX9_rows 428 = .ok (.goto 28, 3) := by decide +kernel
theorem dX9_rows_431 : decode cX9_rows 431 = .ok (.aload_n 0, 1) := by decide +kernel
theorem dX9_rows_432 : decode cX9_rows 432 = .ok (.getfield 19, 3) := by decide +kernel
theorem dX9_rows_435 : decode cX9_rows 435 = .ok (.bipush 12, 2) := by decide +kernel
theorem dX9_rows_437 : decode cX9_rows 437 = .ok (.iload 7, 2) := by decide +kernel
theorem dX9_rows_439 : decode cX9_rows 439 = .ok (.imul, 1) := by decide +kernel
theorem dX9_rows_440 : decode cX9_rows 440 = .ok (.iload 8, 2) := by decide +kernel
theorem dX9_rows_442 : decode cX9_rows 442 = .ok (.iadd, 1) := by decide +kernel
theorem dX9_rows_443 : decode cX9_rows 443 = .ok (.aload_n 0, 1) := by decide +kernel
theorem dX9_rows_444 : decode cX9_rows 444 = .ok (.getfield 98, 3) := by decide +kernel
theorem dX9_rows_447 : decode cX9_rows 447 = .ok (.bipush 6, 2) := by decide +kernel
theorem dX9_rows_449 : decode cX9_rows 449 = .ok (.iload_n 1, 1) := by decide +kernel
theorem dX9_rows_450 : decode cX9_rows 450 = .ok (.imul, 1) := by decide +kernel
theorem dX9_rows_451 : decode cX9_rows 451 = .ok (.iload 5, 2) := by decide +kernel
theorem dX9_rows_453 : decode cX9_rows 453 = .ok (.iadd, 1) := by decide +kernel
theorem dX9_rows_454 : decode cX9_rows 454 = .ok (.iaload, 1) := by decide +kernel
theorem dX9_rows_455 : decode cX9_rows 455 = .ok (.iastore, 1) := by decide +kernel
theorem dX9_rows_456 : decode cX9_rows 456 = .ok (.return_, 1) := by decide +kernel
theorem dX9_fits_0 : decode cX9_fits 0 = .ok (.iload_n 1, 1) := by decide +kernel
theorem dX9_fits_1 : decode cX9_fits 1 = .ok (.bipush 6, 2) := by decide +kernel
theorem dX9_fits_3 : decode cX9_fits 3 = .ok (.if_icmp .lt 9, 3) := by decide +kernel
theorem dX9_fits_6 : decode cX9_fits 6 = .ok (.iload_n 2, 1) := by decide +kernel
theorem dX9_fits_7 : decode cX9_fits 7 = .ok (.bipush 6, 2) := by decide +kernel
theorem dX9_fits_9 : decode cX9_fits 9 = .ok (.if_icmp .ge 34, 3) := by decide +kernel
theorem dX9_fits_12 : decode cX9_fits 12 = .ok (.iload_n 1, 1) := by decide +kernel
theorem dX9_fits_13 : decode cX9_fits 13 = .ok (.iconst 4, 1) := by decide +kernel
theorem dX9_fits_14 : decode cX9_fits 14 = .ok (.if_icmp .ne 13, 3) := by decide +kernel
theorem dX9_fits_17 : decode cX9_fits 17 = .ok (.iload_n 2, 1) := by decide +kernel
theorem dX9_fits_18 : decode cX9_fits 18 = .ok (.iconst 4, 1) := by decide +kernel
theorem dX9_fits_19 : decode cX9_fits 19 = .ok (.if_icmp .eq 18, 3) := by decide +kernel
theorem dX9_fits_22 : decode cX9_fits 22 = .ok (.iload_n 2, 1) := by decide +kernel
theorem dX9_fits_23 : decode cX9_fits 23 = .ok (.iconst 5, 1) := by decide +kernel
theorem dX9_fits_24 : decode cX9_fits 24 = .ok (.if_icmp .eq 13, 3) := by decide +kernel
theorem dX9_fits_27 : decode cX9_fits 27 = .ok (.iload_n 1, 1) := by decide +kernel
theorem dX9_fits_28 : decode cX9_fits 28 = .ok (.iconst 5, 1) := by decide +kernel
theorem dX9_fits_29 : decode cX9_fits 29 = .ok (.if_icmp .ne 12, 3) := by decide +kernel
theorem dX9_fits_32 : decode cX9_fits 32 = .ok (.iload_n 2, 1) := by decide +kernel
theorem dX9_fits_33 : decode cX9_fits 33 = .ok (.iconst 5, 1) := by decide +kernel
theorem dX9_fits_34 : decode cX9_fits 34 = .ok (.if_icmp .ne 7, 3) := by decide +kernel
theorem dX9_fits_37 : decode cX9_fits 37 = .ok (.iconst 1, 1) := by decide +kernel
theorem dX9_fits_38 : decode cX9_fits 38 = .ok (.goto 4, 3) := by decide +kernel
theorem dX9_fits_41 : decode cX9_fits 41 = .ok (.iconst 0, 1) := by decide +kernel
theorem dX9_fits_42 : decode cX9_fits 42 = .ok (.ireturn, 1) := by decide +kernel
theorem dX9_fits_43 : decode cX9_fits 43 = .ok (.iload_n 1, 1) := by decide +kernel
theorem dX9_fits_44 : decode cX9_fits 44 = .ok (.bipush 6, 2) := by decide +kernel
theorem dX9_fits_46 : decode cX9_fits 46 = .ok (.if_icmp .eq 17, 3) := by decide +kernel
theorem dX9_fits_49 : decode cX9_fits 49 = .ok (.iload_n 3, 1) := by decide +kernel
theorem dX9_fits_50 : decode cX9_fits 50 = .ok (.bipush (-4), 2) := by decide +kernel
theorem dX9_fits_52 : decode cX9_fits 52 = .ok (.if_icmp .eq 11, 3) := by decide +kernel
theorem dX9_fits_55 : decode cX9_fits 55 = .ok (.aload_n 0, 1) := by decide +kernel
theorem dX9_fits_56 : decode cX9_fits 56 = .ok (.iload_n 3, 1) := by decide +kernel
theorem dX9_fits_57 : decode cX9_fits 57 = .ok (.invokevirtual 126, 3) := by decide +kernel
theorem dX9_fits_60 : decode cX9_fits 60 = .ok (.ifCond .eq 7, 3) := by decide +kernel
theorem dX9_fits_63 : decode cX9_fits 63 = .ok (.iconst 1, 1) := by decide +kernel
theorem dX9_fits_64 : decode cX9_fits 64 = .ok (.goto 4, 3) := by decide +kernel
theorem dX9_fits_67 : decode cX9_fits 67 = .ok (.iconst 0, 1) := by decide +kernel
theorem dX9_fits_68 : decode cX9_fits 68 = .ok (.ireturn, 1) := by decide +kernel
theorem dX9_copies_0 : decode cX9_copies 0 = .ok (.iload_n 1, 1) := by decide +kernel
theorem dX9_copies_1 : decode cX9_copies 1 = .ok (.bipush (-4), 2) := by decide +kernel
theorem dX9_copies_3 : decode cX9_copies 3 = .ok (.if_icmp .eq 13, 3) := by decide +kernel
theorem dX9_copies_6 : decode cX9_copies 6 = .ok (.aload_n 0, 1) := by decide +kernel
theorem dX9_copies_7 : decode cX9_copies 7 = .ok (.getfield 7, 3) := by decide +kernel
theorem dX9_copies_10 : decode cX9_copies 10 = .ok (.iload_n 1, 1) := by decide +kernel
theorem dX9_copies_11 : decode cX9_copies 11 = .ok (.iaload, 1) := by decide +kernel
theorem dX9_copies_12 : decode cX9_copies 12 = .ok (.iconst 4, 1) := by decide +kernel
theorem dX9_copies_13 : decode cX9_copies 13 = .ok (.if_icmp .lt 19, 3) := by decide +kernel
theorem dX9_copies_16 : decode cX9_copies 16 = .ok (.iload_n 2, 1) := by decide +kernel
theorem dX9_copies_17 : decode cX9_copies 17 = .ok (.bipush (-4), 2) := by decide +kernel
theorem dX9_copies_19 : decode cX9_copies 19 = .ok (.if_icmp .eq 19, 3) := by decide +kernel
theorem dX9_copies_22 : decode cX9_copies 22 = .ok (.aload_n 0, 1) := by decide +kernel
theorem dX9_copies_23 : decode cX9_copies 23 = .ok (.getfield 7, 3) := by decide +kernel
theorem dX9_copies_26 : decode cX9_copies 26 = .ok (.iload_n 2, 1) := by decide +kernel
theorem dX9_copies_27 : decode cX9_copies 27 = .ok (.iaload, 1) := by decide +kernel
theorem dX9_copies_28 : decode cX9_copies 28 = .ok (.iconst 4, 1) := by decide +kernel
theorem dX9_copies_29 : decode cX9_copies 29 = .ok (.if_icmp .ge 9, 3) := by decide +kernel
theorem dX9_copies_32 : decode cX9_copies 32 = .ok (.aload_n 0, 1) := by decide +kernel
theorem dX9_copies_33 : decode cX9_copies 33 = .ok (.iconst 3, 1) := by decide +kernel
theorem dX9_copies_34 : decode cX9_copies 34 = .ok (.invokevirtual 245, 3) := by decide +kernel
theorem dX9_copies_37 : decode cX9_copies 37 = .ok (.return_, 1) := by decide +kernel
theorem dX9_copies_38 : decode cX9_copies 38 = .ok (.iload_n 1, 1) := by decide +kernel
theorem dX9_copies_39 : decode cX9_copies 39 = .ok (.bipush (-4), 2) := by decide +kernel
theorem dX9_copies_41 : decode cX9_copies 41 = .ok (.if_icmp .eq 9, 3) := by decide +kernel
theorem dX9_copies_44 : decode cX9_copies 44 = .ok (.iload_n 2, 1) := by decide +kernel
theorem dX9_copies_45 : decode cX9_copies 45 = .ok (.bipush (-4), 2) := by decide +kernel
theorem dX9_copies_47 : decode cX9_copies 47 = .ok (.if_icmp .ne 9, 3) := by decide +kernel
theorem dX9_copies_50 : decode cX9_copies 50 = .ok (.aload_n 0, 1) := by decide +kernel
theorem dX9_copies_51 : decode cX9_copies 51 = .ok (.iconst 1, 1) := by decide +kernel
theorem dX9_copies_52 : decode cX9_copies 52 = .ok (.invokevirtual 245, 3) := by decide +kernel
theorem dX9_copies_55 : decode cX9_copies 55 = .ok (.return_, 1) := by decide +kernel
theorem dX9_copies_56 : decode cX9_copies 56 = .ok (.iconst 0, 1) := by decide +kernel
theorem dX9_copies_57 : decode cX9_copies 57 = .ok (.istore 4, 2) := by decide +kernel
theorem dX9_copies_59 : decode cX9_copies 59 = .ok (.iload 4, 2) := by decide +kernel
theorem dX9_copies_61 : decode cX9_copies 61 = .ok (.aload_n 0, 1) := by decide +kernel
theorem dX9_copies_62 : decode cX9_copies 62 = .ok (.getfield 16, 3) := by decide +kernel
theorem dX9_copies_65 : decode cX9_copies 65 = .ok (.iload_n 1, 1) := by decide +kernel
theorem dX9_copies_66 : decode cX9_copies 66 = .ok (.iaload, 1) := by decide +kernel
theorem dX9_copies_67 : decode cX9_copies 67 = .ok (.if_icmp .ge 110, 3) := by decide +kernel
theorem dX9_copies_70 : decode cX9_copies 70 = .ok (.aload_n 0, 1) := by decide +kernel
theorem dX9_copies_71 : decode cX9_copies 71 = .ok (.getfield 184, 3) := by decide +kernel
theorem dX9_copies_74 : decode cX9_copies 74 = .ok (.ifCond .ne 103, 3) := by decide +kernel
theorem dX9_copies_77 : decode cX9_copies 77 = .ok (.iload_n 3, 1) := by decide +kernel
theorem dX9_copies_78 : decode cX9_copies 78 = .ok (.i2l, 1) := by decide +kernel
theorem dX9_copies_79 : decode cX9_copies 79 = .ok (.iload 4, 2) := by decide +kernel
theorem dX9_copies_81 : decode cX9_copies 81 = .ok (.i2l, 1) := by decide +kernel
theorem dX9_copies_82 : decode cX9_copies 82 = .ok (.ladd, 1) := by decide +kernel
theorem dX9_copies_83 : decode cX9_copies 83 = .ok (.lstore 5, 2) := by decide +kernel
theorem dX9_copies_85 : decode cX9_copies 85 = .ok (.aload_n 0, 1) := by decide +kernel
theorem dX9_copies_86 : decode cX9_copies 86 = .ok (.getfield 19, 3) := by decide +kernel
theorem dX9_copies_89 : decode cX9_copies 89 = .ok (.bipush 12, 2) := by decide +kernel
theorem dX9_copies_91 : decode cX9_copies 91 = .ok (.iload_n 1, 1) := by decide +kernel
theorem dX9_copies_92 : decode cX9_copies 92 = .ok (.imul, 1) := by decide +kernel
theorem dX9_copies_93 : decode cX9_copies 93 = .ok (.iload 4, 2) := by decide +kernel
theorem dX9_copies_95 : decode cX9_copies 95 = .ok (.iadd, 1) := by decide +kernel
theorem dX9_copies_96 : decode cX9_copies 96 = .ok (.iaload, 1) := by decide +kernel
theorem dX9_copies_97 : decode cX9_copies 97 = .ok (.istore 7, 2) := by decide +kernel
theorem dX9_copies_99 : decode cX9_copies 99 = .ok (.lload 5, 2) := by decide +kernel
theorem dX9_copies_101 : decode cX9_copies 101 = .ok (.lconst 0, 1) := by decide +kernel
theorem dX9_copies_102 : decode cX9_copies 102 = .ok (.lcmp, 1) := by decide +kernel
theorem dX9_copies_103 : decode cX9_copies 103 = .ok (.ifCond .lt 16, 3) := by decide +kernel
theorem dX9_copies_106 : decode cX9_copies 106 = .ok (.lload 5, 2) := by decide +kernel
theorem dX9_copies_108 : decode cX9_copies 108 = .ok (.aload_n 0, 1) := by decide +kernel
theorem dX9_copies_109 : decode cX9_copies 109 = .ok (.getfield 16, 3) := by decide +kernel
theorem dX9_copies_112 : decode cX9_copies 112 = .ok (.iload_n 2, 1) := by decide +kernel
theorem dX9_copies_113 : decode cX9_copies 113 = .ok (.iaload, 1) := by decide +kernel
theorem dX9_copies_114 : decode cX9_copies 114 = .ok (.i2l, 1) := by decide +kernel
theorem dX9_copies_115 : decode cX9_copies 115 = .ok (.lcmp, 1) := by decide +kernel
theorem dX9_copies_116 : decode cX9_copies 116 = .ok (.ifCond .lt 11, 3) := by decide +kernel
theorem dX9_copies_119 : decode cX9_copies 119 = .ok (.aload_n 0, 1) := by decide +kernel
theorem dX9_copies_120 : decode cX9_copies 120 = .ok (.iconst 2, 1) := by decide +kernel
theorem dX9_copies_121 : decode cX9_copies 121 = .ok (.invokevirtual 245, 3) := by decide +kernel
theorem dX9_copies_124 : decode cX9_copies 124 = .ok (.goto 47, 3) := by decide +kernel
theorem dX9_copies_127 : decode cX9_copies 127 = .ok (.aload_n 0, 1) := by decide +kernel
theorem dX9_copies_128 : decode cX9_copies 128 = .ok (.aload_n 0, 1) := by decide +kernel
theorem dX9_copies_129 : decode cX9_copies 129 = .ok (.getfield 7, 3) := by decide +kernel
theorem dX9_copies_132 : decode cX9_copies 132 = .ok (.iload_n 2, 1) := by decide +kernel
theorem dX9_copies_133 : decode cX9_copies 133 = .ok (.iaload, 1) := by decide +kernel
theorem dX9_copies_134 : decode cX9_copies 134 = .ok (.aload_n 0, 1) := by decide +kernel
theorem dX9_copies_135 : decode cX9_copies 135 = .ok (.getfield 7, 3) := by decide +kernel
theorem dX9_copies_138 : decode cX9_copies 138 = .ok (.iload_n 1, 1) := by decide +kernel
theorem dX9_copies_139 : decode cX9_copies 139 = .ok (.iaload, 1) := by decide +kernel
theorem dX9_copies_140 : decode cX9_copies 140 = .ok (.iload 7, 2) := by decide +kernel
theorem dX9_copies_142 : decode cX9_copies 142 = .ok (.invokevirtual 251, 3) := by decide +kernel
theorem dX9_copies_145 : decode cX9_copies 145 = .ok (.ifCond .ne 11, 3) := by decide +kernel
theorem dX9_copies_148 : decode cX9_copies 148 = .ok (.aload_n 0, 1) := by decide +kernel
theorem dX9_copies_149 : decode cX9_copies 149 = .ok (.iconst 4, 1) := by decide +kernel
theorem dX9_copies_150 : decode cX9_copies 150 = .ok (.invokevirtual 245, 3) := by decide +kernel
theorem dX9_copies_153 : decode cX9_copies 153 = .ok (.goto 18, 3) := by decide +kernel
theorem dX9_copies_156 : decode cX9_copies 156 = .ok (.aload_n 0, 1) := by decide +kernel
theorem dX9_copies_157 : decode cX9_copies 157 = .ok (.getfield 19, 3) := by decide +kernel
theorem dX9_copies_160 : decode cX9_copies 160 = .ok (.bipush 12, 2) := by decide +kernel
theorem dX9_copies_162 : decode cX9_copies 162 = .ok (.iload_n 2, 1) := by decide +kernel
theorem dX9_copies_163 : decode cX9_copies 163 = .ok (.imul, 1) := by decide +kernel
theorem dX9_copies_164 : decode cX9_copies 164 = .ok (.lload 5, 2) := by decide +kernel
theorem dX9_copies_166 : decode cX9_copies 166 = .ok (.l2i, 1) := by decide +kernel
theorem dX9_copies_167 : decode cX9_copies 167 = .ok (.iadd, 1) := by decide +kernel
theorem dX9_copies_168 : decode cX9_copies 168 = .ok (.iload 7, 2) := by decide +kernel
theorem dX9_copies_170 : decode cX9_copies 170 = .ok (.iastore, 1) := by decide +kernel
theorem dX9_copies_171 : decode cX9_copies 171 = .ok (.iinc 4 1, 3) := by decide +kernel
theorem dX9_copies_174 : decode cX9_copies 174 = .ok (.goto (-115), 3) := by decide +kernel
theorem dX9_copies_177 : decode cX9_copies 177 = .ok (.return_, 1) := by decide +kernel
theorem dX9_later_0 : decode cX9_later 0 = .ok (.iload_n 0, 1) := by decide +kernel
theorem dX9_later_1 : decode cX9_later 1 = .ok (.iload_n 1, 1) := by decide +kernel
theorem dX9_later_2 : decode cX9_later 2 = .ok (.ldc 254, 2) := by decide +kernel
theorem dX9_later_4 : decode cX9_later 4 = .ok (.if_icmp .le 8, 3) := by decide +kernel
theorem dX9_later_7 : decode cX9_later 7 = .ok (.ldc 254, 2) := by decide +kernel
theorem dX9_later_9 : decode cX9_later 9 = .ok (.goto 4, 3) := by decide +kernel
theorem dX9_later_12 : decode cX9_later 12 = .ok (.iload_n 1, 1) := by decide +kernel
theorem dX9_later_13 : decode cX9_later 13 = .ok (.iadd, 1) := by decide +kernel
theorem dX9_later_14 : decode cX9_later 14 = .ok (.ireturn, 1) := by decide +kernel
theorem dX9_enters_0 : decode cX9_enters 0 = .ok (.aload_n 0, 1) := by decide +kernel
theorem dX9_enters_1 : decode cX9_enters 1 = .ok (.getfield 98, 3) := by decide +kernel
theorem dX9_enters_4 : decode cX9_enters 4 = .ok (.iload_n 3, 1) := by decide +kernel
theorem dX9_enters_5 : decode cX9_enters 5 = .ok (.iaload, 1) := by decide +kernel
theorem dX9_enters_6 : decode cX9_enters 6 = .ok (.istore 5, 2) := by decide +kernel
theorem dX9_enters_8 : decode cX9_enters 8 = .ok (.iload 5, 2) := by decide +kernel
theorem dX9_enters_10 : decode cX9_enters 10 = .ok (.bipush (-4), 2) := by decide +kernel
theorem dX9_enters_12 : decode cX9_enters 12 = .ok (.if_icmp .ne 11, 3) := by decide +kernel
theorem dX9_enters_15 : decode cX9_enters 15 = .ok (.aload_n 0, 1) := by decide +kernel
theorem dX9_enters_16 : decode cX9_enters 16 = .ok (.iconst 1, 1) := by decide +kernel
theorem dX9_enters_17 : decode cX9_enters 17 = .ok (.invokevirtual 245, 3) := by decide +kernel
theorem dX9_enters_20 : decode cX9_enters 20 = .ok (.goto 217, 3) := by decide +kernel
theorem dX9_enters_23 : decode cX9_enters 23 = .ok (.iload_n 2, 1) := by decide +kernel
theorem dX9_enters_24 : decode cX9_enters 24 = .ok (.bipush 22, 2) := by decide +kernel
theorem dX9_enters_26 : decode cX9_enters 26 = .ok (.if_icmp .ne 51, 3) := by decide +kernel
theorem dX9_enters_29 : decode cX9_enters 29 = .ok (.aload_n 0, 1) := by decide +kernel
theorem dX9_enters_30 : decode cX9_enters 30 = .ok (.getfield 22, 3) := by decide +kernel
theorem dX9_enters_33 : decode cX9_enters 33 = .ok (.iload 5, 2) := by decide +kernel
theorem dX9_enters_35 : decode cX9_enters 35 = .ok (.iaload, 1) := by decide +kernel
theorem dX9_enters_36 : decode cX9_enters 36 = .ok (.iload_n 1, 1) := by decide +kernel
theorem dX9_enters_37 : decode cX9_enters 37 = .ok (.if_icmp .ne 17, 3) := by decide +kernel
theorem dX9_enters_40 : decode cX9_enters 40 = .ok (.aload_n 0, 1) := by decide +kernel
theorem dX9_enters_41 : decode cX9_enters 41 = .ok (.getfield 25, 3) := by decide +kernel
theorem dX9_enters_44 : decode cX9_enters 44 = .ok (.iload 5, 2) := by decide +kernel
theorem dX9_enters_46 : decode cX9_enters 46 = .ok (.dup2, 1) := by decide +kernel
theorem dX9_enters_47 : decode cX9_enters 47 = .ok (.iaload, 1) := by decide +kernel
theorem dX9_enters_48 : decode cX9_enters 48 = .ok (.iconst 1, 1) := by decide +kernel
theorem dX9_enters_49 : decode cX9_enters 49 = .ok (.iadd, 1) := by decide +kernel
theorem dX9_enters_50 : decode cX9_enters 50 = .ok (.iastore, 1) := by decide +kernel
theorem dX9_enters_51 : decode cX9_enters 51 = .ok (.goto 186, 3) := by decide +kernel
theorem dX9_enters_54 : decode cX9_enters 54 = .ok (.aload_n 0, 1) := by decide +kernel
theorem dX9_enters_55 : decode cX9_enters 55 = .ok (.getfield 65, 3) := by decide +kernel
theorem dX9_enters_58 : decode cX9_enters 58 = .ok (.iload_n 1, 1) := by decide +kernel
theorem dX9_enters_59 : decode cX9_enters 59 = .ok (.iload 5, 2) := by decide +kernel
theorem dX9_enters_61 : decode cX9_enters 61 = .ok (.iastore, 1) := by decide +kernel
theorem dX9_enters_62 : decode cX9_enters 62 = .ok (.aload_n 0, 1) := by decide +kernel
theorem dX9_enters_63 : decode cX9_enters 63 = .ok (.getfield 71, 3) := by decide +kernel
theorem dX9_enters_66 : decode cX9_enters 66 = .ok (.iload_n 1, 1) := by decide +kernel
theorem dX9_enters_67 : decode cX9_enters 67 = .ok (.iconst 1, 1) := by decide +kernel
theorem dX9_enters_68 : decode cX9_enters 68 = .ok (.iastore, 1) := by decide +kernel
theorem dX9_enters_69 : decode cX9_enters 69 = .ok (.aload_n 0, 1) := by decide +kernel
theorem dX9_enters_70 : decode cX9_enters 70 = .ok (.iload_n 1, 1) := by decide +kernel
theorem dX9_enters_71 : decode cX9_enters 71 = .ok (.invokevirtual 156, 3) := by decide +kernel
theorem dX9_enters_74 : decode cX9_enters 74 = .ok (.goto 163, 3) := by decide +kernel
theorem dX9_enters_77 : decode cX9_enters 77 = .ok (.aload_n 0, 1) := by decide +kernel
theorem dX9_enters_78 : decode cX9_enters 78 = .ok (.getfield 22, 3) := by decide +kernel
theorem dX9_enters_81 : decode cX9_enters 81 = .ok (.iload 5, 2) := by decide +kernel
theorem dX9_enters_83 : decode cX9_enters 83 = .ok (.iaload, 1) := by decide +kernel
theorem dX9_enters_84 : decode cX9_enters 84 = .ok (.iload_n 1, 1) := by decide +kernel
theorem dX9_enters_85 : decode cX9_enters 85 = .ok (.if_icmp .eq 12, 3) := by decide +kernel
theorem dX9_enters_88 : decode cX9_enters 88 = .ok (.aload_n 0, 1) := by decide +kernel
theorem dX9_enters_89 : decode cX9_enters 89 = .ok (.bipush 8, 2) := by decide +kernel
theorem dX9_enters_91 : decode cX9_enters 91 = .ok (.invokevirtual 245, 3) := by decide +kernel
theorem dX9_enters_94 : decode cX9_enters 94 = .ok (.goto 143, 3) := by decide +kernel
theorem dX9_enters_97 : decode cX9_enters 97 = .ok (.iload_n 2, 1) := by decide +kernel
theorem dX9_enters_98 : decode cX9_enters 98 = .ok (.bipush 23, 2) := by decide +kernel
theorem dX9_enters_100 : decode cX9_enters 100 = .ok (.if_icmp .ne 33, 3) := by decide +kernel
theorem dX9_enters_103 : decode cX9_enters 103 = .ok (.aload_n 0, 1) := by decide +kernel
theorem dX9_enters_104 : decode cX9_enters 104 = .ok (.getfield 25, 3) := by decide +kernel
theorem dX9_enters_107 : decode cX9_enters 107 = .ok (.iload 5, 2) := by decide +kernel
theorem dX9_enters_109 : decode cX9_enters 109 = .ok (.dup2, 1) := by decide +kernel
theorem dX9_enters_110 : decode cX9_enters 110 = .ok (.iaload, 1) := by decide +kernel
theorem dX9_enters_111 : decode cX9_enters 111 = .ok (.iconst 1, 1) := by decide +kernel
theorem dX9_enters_112 : decode cX9_enters 112 = .ok (.isub, 1) := by decide +kernel
theorem dX9_enters_113 : decode cX9_enters 113 = .ok (.iastore, 1) := by decide +kernel
theorem dX9_enters_114 : decode cX9_enters 114 = .ok (.aload_n 0, 1) := by decide +kernel
theorem dX9_enters_115 : decode cX9_enters 115 = .ok (.getfield 25, 3) := by decide +kernel
theorem dX9_enters_118 : decode cX9_enters 118 = .ok (.iload 5, 2) := by decide +kernel
theorem dX9_enters_120 : decode cX9_enters 120 = .ok (.iaload, 1) := by decide +kernel
theorem dX9_enters_121 : decode cX9_enters 121 = .ok (.ifCond .ne 116, 3) := by decide +kernel
theorem dX9_enters_124 : decode cX9_enters 124 = .ok (.aload_n 0, 1) := by decide +kernel
theorem dX9_enters_125 : decode cX9_enters 125 = .ok (.iload 5, 2) := by decide +kernel
theorem dX9_enters_127 : decode cX9_enters 127 = .ok (.invokevirtual 168, 3) := by decide +kernel
theorem dX9_enters_130 : decode cX9_enters 130 = .ok (.goto 107, 3) := by decide +kernel
theorem dX9_enters_133 : decode cX9_enters 133 = .ok (.iload_n 2, 1) := by decide +kernel
theorem dX9_enters_134 : decode cX9_enters 134 = .ok (.bipush 24, 2) := by decide +kernel
theorem dX9_enters_136 : decode cX9_enters 136 = .ok (.if_icmp .ne 25, 3) := by decide +kernel
theorem dX9_enters_139 : decode cX9_enters 139 = .ok (.aload_n 0, 1) := by decide +kernel
theorem dX9_enters_140 : decode cX9_enters 140 = .ok (.iload_n 1, 1) := by decide +kernel
theorem dX9_enters_141 : decode cX9_enters 141 = .ok (.iload 5, 2) := by decide +kernel
theorem dX9_enters_143 : decode cX9_enters 143 = .ok (.aload_n 0, 1) := by decide +kernel
theorem dX9_enters_144 : decode cX9_enters 144 = .ok (.getfield 95, 3) := by decide +kernel
theorem dX9_enters_147 : decode cX9_enters 147 = .ok (.bipush 6, 2) := by decide +kernel
theorem dX9_enters_149 : decode cX9_enters 149 = .ok (.iload_n 1, 1) := by decide +kernel
theorem dX9_enters_150 : decode cX9_enters 150 = .ok (.imul, 1) := by decide +kernel
theorem dX9_enters_151 : decode cX9_enters 151 = .ok (.iload 4, 2) := by decide +kernel
theorem dX9_enters_153 : decode cX9_enters 153 = .ok (.iadd, 1) := by decide +kernel
theorem dX9_enters_154 : decode cX9_enters 154 = .ok (.iaload, 1) := by decide +kernel
theorem dX9_enters_155 : decode cX9_enters 155 = .ok (.invokevirtual 255, 3) := by decide +kernel
theorem dX9_enters_158 : decode cX9_enters 158 = .ok (.goto 79, 3) := by decide +kernel
theorem dX9_enters_161 : decode cX9_enters 161 = .ok (.iload_n 2, 1) := by decide +kernel
theorem dX9_enters_162 : decode cX9_enters 162 = .ok (.bipush 25, 2) := by decide +kernel
theorem dX9_enters_164 : decode cX9_enters 164 = .ok (.if_icmp .ne 28, 3) := by decide +kernel
theorem dX9_enters_167 : decode cX9_enters 167 = .ok (.aload_n 0, 1) := by decide +kernel
theorem dX9_enters_168 : decode cX9_enters 168 = .ok (.iconst 4, 1) := by decide +kernel
theorem dX9_enters_169 : decode cX9_enters 169 = .ok (.iload 5, 2) := by decide +kernel
theorem dX9_enters_171 : decode cX9_enters 171 = .ok (.invokevirtual 165, 3) := by decide +kernel
theorem dX9_enters_174 : decode cX9_enters 174 = .ok (.istore 6, 2) := by decide +kernel
theorem dX9_enters_176 : decode cX9_enters 176 = .ok (.iload 6, 2) := by decide +kernel
theorem dX9_enters_178 : decode cX9_enters 178 = .ok (.bipush (-4), 2) := by decide +kernel
theorem dX9_enters_180 : decode cX9_enters 180 = .ok (.if_icmp .eq 9, 3) := by decide +kernel
theorem dX9_enters_183 : decode cX9_enters 183 = .ok (.aload_n 0, 1) := by decide +kernel
theorem dX9_enters_184 : decode cX9_enters 184 = .ok (.iload 6, 2) := by decide +kernel
theorem dX9_enters_186 : decode cX9_enters 186 = .ok (.invokevirtual 177, 3) := by decide +kernel
theorem dX9_enters_189 : decode cX9_enters 189 = .ok (.goto 48, 3) := by decide +kernel
theorem dX9_enters_192 : decode cX9_enters 192 = .ok (.iconst 0, 1) := by decide +kernel
theorem dX9_enters_193 : decode cX9_enters 193 = .ok (.istore 6, 2) := by decide +kernel
theorem dX9_enters_195 : decode cX9_enters 195 = .ok (.iload 6, 2) := by decide +kernel
theorem dX9_enters_197 : decode cX9_enters 197 = .ok (.bipush 6, 2) := by decide +kernel
theorem dX9_enters_199 : decode cX9_enters 199 = .ok (.if_icmp .ge 38, 3) := by decide +kernel
theorem dX9_enters_202 : decode cX9_enters 202 = .ok (.aload_n 0, 1) := by decide +kernel
theorem dX9_enters_203 : decode cX9_enters 203 = .ok (.getfield 40, 3) := by decide +kernel
theorem dX9_enters_206 : decode cX9_enters 206 = .ok (.iload 6, 2) := by decide +kernel
theorem dX9_enters_208 : decode cX9_enters 208 = .ok (.iaload, 1) := by decide +kernel
theorem dX9_enters_209 : decode cX9_enters 209 = .ok (.iconst 4, 1) := by decide +kernel
theorem dX9_enters_210 : decode cX9_enters 210 = .ok (.if_icmp .ne 21, 3) := by decide +kernel
theorem dX9_enters_213 : decode cX9_enters 213 = .ok (.aload_n 0, 1) := by decide +kernel
theorem dX9_enters_214 : decode cX9_enters 214 = .ok (.getfield 65, 3) := by decide +kernel
theorem dX9_enters_217 : decode cX9_enters 217 = .ok (.iload 6, 2) := by decide +kernel
theorem dX9_enters_219 : decode cX9_enters 219 = .ok (.iaload, 1) := by decide +kernel
theorem dX9_enters_220 : decode cX9_enters 220 = .ok (.iload 5, 2) := by decide +kernel
theorem dX9_enters_222 : decode cX9_enters 222 = .ok (.if_icmp .ne 9, 3) := by decide +kernel
theorem dX9_enters_225 : decode cX9_enters 225 = .ok (.aload_n 0, 1) := by decide +kernel
theorem dX9_enters_226 : decode cX9_enters 226 = .ok (.iload 6, 2) := by decide +kernel
theorem dX9_enters_228 : decode cX9_enters 228 = .ok (.invokevirtual 177, 3) := by decide +kernel
theorem dX9_enters_231 : decode cX9_enters 231 = .ok (.iinc 6 1, 3) := by decide +kernel
theorem dX9_enters_234 : decode cX9_enters 234 = .ok (.goto (-39), 3) := by decide +kernel
theorem dX9_enters_237 : decode cX9_enters 237 = .ok (.return_, 1) := by decide +kernel
theorem dX9_waits_0 : decode cX9_waits 0 = .ok (.aload_n 0, 1) := by decide +kernel
theorem dX9_waits_1 : decode cX9_waits 1 = .ok (.getfield 52, 3) := by decide +kernel
theorem dX9_waits_4 : decode cX9_waits 4 = .ok (.iload_n 1, 1) := by decide +kernel
theorem dX9_waits_5 : decode cX9_waits 5 = .ok (.baload, 1) := by decide +kernel
theorem dX9_waits_6 : decode cX9_waits 6 = .ok (.ifCond .eq 17, 3) := by decide +kernel
theorem dX9_waits_9 : decode cX9_waits 9 = .ok (.aload_n 0, 1) := by decide +kernel
theorem dX9_waits_10 : decode cX9_waits 10 = .ok (.getfield 52, 3) := by decide +kernel
theorem dX9_waits_13 : decode cX9_waits 13 = .ok (.iload_n 1, 1) := by decide +kernel
theorem dX9_waits_14 : decode cX9_waits 14 = .ok (.iconst 0, 1) := by decide +kernel
theorem dX9_waits_15 : decode cX9_waits 15 = .ok (.bastore, 1) := by decide +kernel
theorem dX9_waits_16 : decode cX9_waits 16 = .ok (.aload_n 0, 1) := by decide +kernel
theorem dX9_waits_17 : decode cX9_waits 17 = .ok (.bipush 9, 2) := by decide +kernel
theorem dX9_waits_19 : decode cX9_waits 19 = .ok (.invokevirtual 245, 3) := by decide +kernel
theorem dX9_waits_22 : decode cX9_waits 22 = .ok (.return_, 1) := by decide +kernel
theorem dX9_waits_23 : decode cX9_waits 23 = .ok (.aload_n 0, 1) := by decide +kernel
theorem dX9_waits_24 : decode cX9_waits 24 = .ok (.getfield 71, 3) := by decide +kernel
theorem dX9_waits_27 : decode cX9_waits 27 = .ok (.iload_n 1, 1) := by decide +kernel
theorem dX9_waits_28 : decode cX9_waits 28 = .ok (.aload_n 0, 1) := by decide +kernel
theorem dX9_waits_29 : decode cX9_waits 29 = .ok (.getfield 25, 3) := by decide +kernel
theorem dX9_waits_32 : decode cX9_waits 32 = .ok (.iload_n 2, 1) := by decide +kernel
theorem dX9_waits_33 : decode cX9_waits 33 = .ok (.iaload, 1) := by decide +kernel
theorem dX9_waits_34 : decode cX9_waits 34 = .ok (.iastore, 1) := by decide +kernel
theorem dX9_waits_35 : decode cX9_waits 35 = .ok (.aload_n 0, 1) := by decide +kernel
theorem dX9_waits_36 : decode cX9_waits 36 = .ok (.getfield 65, 3) := by decide +kernel
theorem dX9_waits_39 : decode cX9_waits 39 = .ok (.iload_n 1, 1) := by decide +kernel
theorem dX9_waits_40 : decode cX9_waits 40 = .ok (.iload_n 2, 1) := by decide +kernel
theorem dX9_waits_41 : decode cX9_waits 41 = .ok (.iastore, 1) := by decide +kernel
theorem dX9_waits_42 : decode cX9_waits 42 = .ok (.aload_n 0, 1) := by decide +kernel
theorem dX9_waits_43 : decode cX9_waits 43 = .ok (.getfield 40, 3) := by decide +kernel
theorem dX9_waits_46 : decode cX9_waits 46 = .ok (.iload_n 1, 1) := by decide +kernel
theorem dX9_waits_47 : decode cX9_waits 47 = .ok (.iconst 4, 1) := by decide +kernel
theorem dX9_waits_48 : decode cX9_waits 48 = .ok (.iastore, 1) := by decide +kernel
theorem dX9_waits_49 : decode cX9_waits 49 = .ok (.aload_n 0, 1) := by decide +kernel
theorem dX9_waits_50 : decode cX9_waits 50 = .ok (.getfield 68, 3) := by decide +kernel
theorem dX9_waits_53 : decode cX9_waits 53 = .ok (.iload_n 1, 1) := by decide +kernel
theorem dX9_waits_54 : decode cX9_waits 54 = .ok (.iload_n 3, 1) := by decide +kernel
theorem dX9_waits_55 : decode cX9_waits 55 = .ok (.ifCond .le 14, 3) := by decide +kernel
theorem dX9_waits_58 : decode cX9_waits 58 = .ok (.aload_n 0, 1) := by decide +kernel
theorem dX9_waits_59 : decode cX9_waits 59 = .ok (.getfield 174, 3) := by decide +kernel
theorem dX9_waits_62 : decode cX9_waits 62 = .ok (.iload_n 3, 1) := by decide +kernel
theorem dX9_waits_63 : decode cX9_waits 63 = .ok (.invokestatic 258, 3) := by decide +kernel
theorem dX9_waits_66 : decode cX9_waits 66 = .ok (.goto 5, 3) := by decide +kernel
theorem dX9_waits_69 : decode cX9_waits 69 = .ok (.bipush (-4), 2) := by decide +kernel
theorem dX9_waits_71 : decode cX9_waits 71 = .ok (.iastore, 1) := by decide +kernel
theorem dX9_waits_72 : decode cX9_waits 72 = .ok (.aload_n 0, 1) := by decide +kernel
theorem dX9_waits_73 : decode cX9_waits 73 = .ok (.getfield 74, 3) := by decide +kernel
theorem dX9_waits_76 : decode cX9_waits 76 = .ok (.iload_n 1, 1) := by decide +kernel
theorem dX9_waits_77 : decode cX9_waits 77 = .ok (.aload_n 0, 1) := by decide +kernel
theorem dX9_waits_78 : decode cX9_waits 78 = .ok (.getfield 159, 3) := by decide +kernel
theorem dX9_waits_81 : decode cX9_waits 81 = .ok (.iastore, 1) := by decide +kernel
theorem dX9_waits_82 : decode cX9_waits 82 = .ok (.aload_n 0, 1) := by decide +kernel
theorem dX9_waits_83 : decode cX9_waits 83 = .ok (.dup, 1) := by decide +kernel
theorem dX9_waits_84 : decode cX9_waits 84 = .ok (.getfield 159, 3) := by decide +kernel
theorem dX9_waits_87 : decode cX9_waits 87 = .ok (.iconst 1, 1) := by decide +kernel
theorem dX9_waits_88 : decode cX9_waits 88 = .ok (.iadd, 1) := by decide +kernel
theorem dX9_waits_89 : decode cX9_waits 89 = .ok (.putfield 159, 3) := by decide +kernel
theorem dX9_waits_92 : decode cX9_waits 92 = .ok (.aload_n 0, 1) := by decide +kernel
theorem dX9_waits_93 : decode cX9_waits 93 = .ok (.iload_n 2, 1) := by decide +kernel
theorem dX9_waits_94 : decode cX9_waits 94 = .ok (.invokevirtual 168, 3) := by decide +kernel
theorem dX9_waits_97 : decode cX9_waits 97 = .ok (.return_, 1) := by decide +kernel
theorem dX9_stops_0 : decode cX9_stops 0 = .ok (.iload_n 2, 1) := by decide +kernel
theorem dX9_stops_1 : decode cX9_stops 1 = .ok (.bipush 27, 2) := by decide +kernel
theorem dX9_stops_3 : decode cX9_stops 3 = .ok (.if_icmp .le 20, 3) := by decide +kernel
theorem dX9_stops_6 : decode cX9_stops 6 = .ok (.iload_n 3, 1) := by decide +kernel
theorem dX9_stops_7 : decode cX9_stops 7 = .ok (.iconst 0, 1) := by decide +kernel
theorem dX9_stops_8 : decode cX9_stops 8 = .ok (.iconst 5, 1) := by decide +kernel
theorem dX9_stops_9 : decode cX9_stops 9 = .ok (.invokestatic 114, 3) := by decide +kernel
theorem dX9_stops_12 : decode cX9_stops 12 = .ok (.ifCond .ne 11, 3) := by decide +kernel
theorem dX9_stops_15 : decode cX9_stops 15 = .ok (.aload_n 0, 1) := by decide +kernel
theorem dX9_stops_16 : decode cX9_stops 16 = .ok (.iconst 2, 1) := by decide +kernel
theorem dX9_stops_17 : decode cX9_stops 17 = .ok (.invokevirtual 245, 3) := by decide +kernel
theorem dX9_stops_20 : decode cX9_stops 20 = .ok (.goto 142, 3) := by decide +kernel
theorem dX9_stops_23 : decode cX9_stops 23 = .ok (.iload_n 2, 1) := by decide +kernel
theorem dX9_stops_24 : decode cX9_stops 24 = .ok (.bipush 29, 2) := by decide +kernel
theorem dX9_stops_26 : decode cX9_stops 26 = .ok (.if_icmp .ne 32, 3) := by decide +kernel
theorem dX9_stops_29 : decode cX9_stops 29 = .ok (.aload_n 0, 1) := by decide +kernel
theorem dX9_stops_30 : decode cX9_stops 30 = .ok (.getfield 40, 3) := by decide +kernel
theorem dX9_stops_33 : decode cX9_stops 33 = .ok (.iload_n 3, 1) := by decide +kernel
theorem dX9_stops_34 : decode cX9_stops 34 = .ok (.iaload, 1) := by decide +kernel
theorem dX9_stops_35 : decode cX9_stops 35 = .ok (.iconst 1, 1) := by decide +kernel
theorem dX9_stops_36 : decode cX9_stops 36 = .ok (.if_icmp .eq 12, 3) := by decide +kernel
theorem dX9_stops_39 : decode cX9_stops 39 = .ok (.aload_n 0, 1) := by decide +kernel
theorem dX9_stops_40 : decode cX9_stops 40 = .ok (.bipush 10, 2) := by decide +kernel
theorem dX9_stops_42 : decode cX9_stops 42 = .ok (.invokevirtual 245, 3) := by decide +kernel
theorem dX9_stops_45 : decode cX9_stops 45 = .ok (.goto 117, 3) := by decide +kernel
theorem dX9_stops_48 : decode cX9_stops 48 = .ok (.aload_n 0, 1) := by decide +kernel
theorem dX9_stops_49 : decode cX9_stops 49 = .ok (.getfield 40, 3) := by decide +kernel
theorem dX9_stops_52 : decode cX9_stops 52 = .ok (.iload_n 3, 1) := by decide +kernel
theorem dX9_stops_53 : decode cX9_stops 53 = .ok (.iconst 2, 1) := by decide +kernel
theorem dX9_stops_54 : decode cX9_stops 54 = .ok (.iastore, 1) := by decide +kernel
theorem dX9_stops_55 : decode cX9_stops 55 = .ok (.goto 107, 3) := by decide +kernel
theorem dX9_stops_58 : decode cX9_stops 58 = .ok (.iload_n 2, 1) := by decide +kernel
theorem dX9_stops_59 : decode cX9_stops 59 = .ok (.bipush 30, 2) := by decide +kernel
theorem dX9_stops_61 : decode cX9_stops 61 = .ok (.if_icmp .ne 13, 3) := by decide +kernel
theorem dX9_stops_64 : decode cX9_stops 64 = .ok (.aload_n 0, 1) := by decide +kernel
theorem dX9_stops_65 : decode cX9_stops 65 = .ok (.iload_n 3, 1) := by decide +kernel
theorem dX9_stops_66 : decode cX9_stops 66 = .ok (.invokevirtual 261, 3) := by decide +kernel
theorem dX9_stops_69 : decode cX9_stops 69 = .ok (.istore 4, 2) := by decide +kernel
theorem dX9_stops_71 : decode cX9_stops 71 = .ok (.goto 91, 3) := by decide +kernel
theorem dX9_stops_74 : decode cX9_stops 74 = .ok (.iload_n 2, 1) := by decide +kernel
theorem dX9_stops_75 : decode cX9_stops 75 = .ok (.bipush 27, 2) := by decide +kernel
theorem dX9_stops_77 : decode cX9_stops 77 = .ok (.if_icmp .eq 11, 3) := by decide +kernel
theorem dX9_stops_80 : decode cX9_stops 80 = .ok (.aload_n 0, 1) := by decide +kernel
theorem dX9_stops_81 : decode cX9_stops 81 = .ok (.iload_n 3, 1) := by decide +kernel
theorem dX9_stops_82 : decode cX9_stops 82 = .ok (.invokevirtual 143, 3) := by decide +kernel
theorem dX9_stops_85 : decode cX9_stops 85 = .ok (.ifCond .eq 77, 3) := by decide +kernel
theorem dX9_stops_88 : decode cX9_stops 88 = .ok (.aload_n 0, 1) := by decide +kernel
theorem dX9_stops_89 : decode cX9_stops 89 = .ok (.getfield 52, 3) := by decide +kernel
theorem dX9_stops_92 : decode cX9_stops 92 = .ok (.iload_n 1, 1) := by decide +kernel
theorem dX9_stops_93 : decode cX9_stops 93 = .ok (.baload, 1) := by decide +kernel
theorem dX9_stops_94 : decode cX9_stops 94 = .ok (.ifCond .eq 19, 3) := by decide +kernel
theorem dX9_stops_97 : decode cX9_stops 97 = .ok (.aload_n 0, 1) := by decide +kernel
theorem dX9_stops_98 : decode cX9_stops 98 = .ok (.getfield 52, 3) := by decide +kernel
theorem dX9_stops_101 : decode cX9_stops 101 = .ok (.iload_n 1, 1) := by decide +kernel
theorem dX9_stops_102 : decode cX9_stops 102 = .ok (.iconst 0, 1) := by decide +kernel
theorem dX9_stops_103 : decode cX9_stops 103 = .ok (.bastore, 1) := by decide +kernel
theorem dX9_stops_104 : decode cX9_stops 104 = .ok (.aload_n 0, 1) := by decide +kernel
theorem dX9_stops_105 : decode cX9_stops 105 = .ok (.bipush 9, 2) := by decide +kernel
theorem dX9_stops_107 : decode cX9_stops 107 = .ok (.invokevirtual 245, 3) := by decide +kernel
theorem dX9_stops_110 : decode cX9_stops 110 = .ok (.goto 52, 3) := by decide +kernel
theorem dX9_stops_113 : decode cX9_stops 113 = .ok (.iload_n 2, 1) := by decide +kernel
theorem dX9_stops_114 : decode cX9_stops 114 = .ok (.bipush 28, 2) := by decide +kernel
theorem dX9_stops_116 : decode cX9_stops 116 = .ok (.if_icmp .ne 21, 3) := by decide +kernel
theorem dX9_stops_119 : decode cX9_stops 119 = .ok (.aload_n 0, 1) := by decide +kernel
theorem dX9_stops_120 : decode cX9_stops 120 = .ok (.getfield 40, 3) := by decide +kernel
theorem dX9_stops_123 : decode cX9_stops 123 = .ok (.iload_n 1, 1) := by decide +kernel
theorem dX9_stops_124 : decode cX9_stops 124 = .ok (.bipush 6, 2) := by decide +kernel
theorem dX9_stops_126 : decode cX9_stops 126 = .ok (.iastore, 1) := by decide +kernel
theorem dX9_stops_127 : decode cX9_stops 127 = .ok (.aload_n 0, 1) := by decide +kernel
theorem dX9_stops_128 : decode cX9_stops 128 = .ok (.getfield 65, 3) := by decide +kernel
theorem dX9_stops_131 : decode cX9_stops 131 = .ok (.iload_n 1, 1) := by decide +kernel
theorem dX9_stops_132 : decode cX9_stops 132 = .ok (.iload_n 3, 1) := by decide +kernel
theorem dX9_stops_133 : decode cX9_stops 133 = .ok (.iastore, 1) := by decide +kernel
theorem dX9_stops_134 : decode cX9_stops 134 = .ok (.goto 28, 3) := by decide +kernel
theorem dX9_stops_137 : decode cX9_stops 137 = .ok (.iload_n 3, 1) := by decide +kernel
theorem dX9_stops_138 : decode cX9_stops 138 = .ok (.ifCond .le 24, 3) := by decide +kernel
theorem dX9_stops_141 : decode cX9_stops 141 = .ok (.aload_n 0, 1) := by decide +kernel
theorem dX9_stops_142 : decode cX9_stops 142 = .ok (.getfield 40, 3) := by decide +kernel
theorem dX9_stops_145 : decode cX9_stops 145 = .ok (.iload_n 1, 1) := by decide +kernel
theorem dX9_stops_146 : decode cX9_stops 146 = .ok (.iconst 5, 1) := by decide +kernel
theorem dX9_stops_147 : decode cX9_stops 147 = .ok (.iastore, 1) := by decide +kernel
theorem dX9_stops_148 : decode cX9_stops 148 = .ok (.aload_n 0, 1) := by decide +kernel
theorem dX9_stops_149 : decode cX9_stops 149 = .ok (.getfield 68, 3) := by decide +kernel
theorem dX9_stops_152 : decode cX9_stops 152 = .ok (.iload_n 1, 1) := by decide +kernel
theorem dX9_stops_153 : decode cX9_stops 153 = .ok (.aload_n 0, 1) := by decide +kernel
theorem dX9_stops_154 : decode cX9_stops 154 = .ok (.getfield 174, 3) := by decide +kernel
theorem dX9_stops_157 : decode cX9_stops 157 = .ok (.iload_n 3, 1) := by decide +kernel
theorem dX9_stops_158 : decode cX9_stops 158 = .ok (.invokestatic 258, 3) := by decide +kernel
theorem dX9_stops_161 : decode cX9_stops 161 = .ok (.iastore, 1) := by decide +kernel
theorem dX9_stops_162 : decode cX9_stops 162 = .ok (.return_, 1) := by decide +kernel
theorem dX9_rests_0 : decode cX9_rests 0 = .ok (.bipush 6, 2) := by decide +kernel
theorem dX9_rests_2 : decode cX9_rests 2 = .ok (.iload_n 1, 1) := by decide +kernel
theorem dX9_rests_3 : decode cX9_rests 3 = .ok (.imul, 1) := by decide +kernel
theorem dX9_rests_4 : decode cX9_rests 4 = .ok (.iload_n 3, 1) := by decide +kernel
theorem dX9_rests_5 : decode cX9_rests 5 = .ok (.iadd, 1) := by decide +kernel
theorem dX9_rests_6 : decode cX9_rests 6 = .ok (.istore 5, 2) := by decide +kernel
theorem dX9_rests_8 : decode cX9_rests 8 = .ok (.iload_n 2, 1) := by decide +kernel
theorem dX9_rests_9 : decode cX9_rests 9 = .ok (.tableswitch 214 31 35 #[35, 66, 86, 154, 180], 35) := by decide +kernel
theorem dX9_rests_44 : decode cX9_rests 44 = .ok (.aload_n 0, 1) := by decide +kernel
theorem dX9_rests_45 : decode cX9_rests 45 = .ok (.getfield 95, 3) := by decide +kernel
theorem dX9_rests_48 : decode cX9_rests 48 = .ok (.iload 5, 2) := by decide +kernel
theorem dX9_rests_50 : decode cX9_rests 50 = .ok (.aload_n 0, 1) := by decide +kernel
theorem dX9_rests_51 : decode cX9_rests 51 = .ok (.getfield 52, 3) := by decide +kernel
theorem dX9_rests_54 : decode cX9_rests 54 = .ok (.iload_n 1, 1) := by decide +kernel
theorem dX9_rests_55 : decode cX9_rests 55 = .ok (.baload, 1) := by decide +kernel
theorem dX9_rests_56 : decode cX9_rests 56 = .ok (.ifCond .eq 7, 3) := by decide +kernel
theorem dX9_rests_59 : decode cX9_rests 59 = .ok (.iconst 1, 1) := by decide +kernel
theorem dX9_rests_60 : decode cX9_rests 60 = .ok (.goto 4, 3) := by decide +kernel
theorem dX9_rests_63 : decode cX9_rests 63 = .ok (.iconst 0, 1) := by decide +kernel
theorem dX9_rests_64 : decode cX9_rests 64 = .ok (.iastore, 1) := by decide +kernel
theorem dX9_rests_65 : decode cX9_rests 65 = .ok (.aload_n 0, 1) := by decide +kernel
theorem dX9_rests_66 : decode cX9_rests 66 = .ok (.getfield 52, 3) := by decide +kernel
theorem dX9_rests_69 : decode cX9_rests 69 = .ok (.iload_n 1, 1) := by decide +kernel
theorem dX9_rests_70 : decode cX9_rests 70 = .ok (.iconst 0, 1) := by decide +kernel
theorem dX9_rests_71 : decode cX9_rests 71 = .ok (.bastore, 1) := by decide +kernel
theorem dX9_rests_72 : decode cX9_rests 72 = .ok (.goto 151, 3) := by decide +kernel
theorem dX9_rests_75 : decode cX9_rests 75 = .ok (.aload_n 0, 1) := by decide +kernel
theorem dX9_rests_76 : decode cX9_rests 76 = .ok (.bipush 7, 2) := by decide +kernel
theorem dX9_rests_78 : decode cX9_rests 78 = .ok (.putfield 184, 3) := by decide +kernel
theorem dX9_rests_81 : decode cX9_rests 81 = .ok (.aload_n 0, 1) := by decide +kernel
theorem dX9_rests_82 : decode cX9_rests 82 = .ok (.aload_n 0, 1) := by decide +kernel
theorem dX9_rests_83 : decode cX9_rests 83 = .ok (.getfield 95, 3) := by decide +kernel
theorem dX9_rests_86 : decode cX9_rests 86 = .ok (.iload 5, 2) := by decide +kernel
theorem dX9_rests_88 : decode cX9_rests 88 = .ok (.iaload, 1) := by decide +kernel
theorem dX9_rests_89 : decode cX9_rests 89 = .ok (.putfield 187, 3) := by decide +kernel
theorem dX9_rests_92 : decode cX9_rests 92 = .ok (.goto 131, 3) := by decide +kernel
theorem dX9_rests_95 : decode cX9_rests 95 = .ok (.aload_n 0, 1) := by decide +kernel
theorem dX9_rests_96 : decode cX9_rests 96 = .ok (.getfield 86, 3) := by decide +kernel
theorem dX9_rests_99 : decode cX9_rests 99 = .ok (.iload_n 1, 1) := by decide +kernel
theorem dX9_rests_100 : decode cX9_rests 100 = .ok (.iaload, 1) := by decide +kernel
theorem dX9_rests_101 : decode cX9_rests 101 = .ok (.bipush 8, 2) := by decide +kernel
theorem dX9_rests_103 : decode cX9_rests 103 = .ok (.if_icmp .ne 12, 3) := by decide +kernel
theorem dX9_rests_106 : decode cX9_rests 106 = .ok (.aload_n 0, 1) := by decide +kernel
theorem dX9_rests_107 : decode cX9_rests 107 = .ok (.bipush 11, 2) := by decide +kernel
theorem dX9_rests_109 : decode cX9_rests 109 = .ok (.invokevirtual 245, 3) := by decide +kernel
theorem dX9_rests_112 : decode cX9_rests 112 = .ok (.goto 111, 3) := by decide +kernel
theorem dX9_rests_115 : decode cX9_rests 115 = .ok (.aload_n 0, 1) := by decide +kernel
theorem dX9_rests_116 : decode cX9_rests 116 = .ok (.getfield 89, 3) := by decide +kernel
theorem dX9_rests_119 : decode cX9_rests 119 = .ok (.bipush 8, 2) := by decide +kernel
theorem dX9_rests_121 : decode cX9_rests 121 = .ok (.iload_n 1, 1) := by decide +kernel
theorem dX9_rests_122 : decode cX9_rests 122 = .ok (.imul, 1) := by decide +kernel
theorem dX9_rests_123 : decode cX9_rests 123 = .ok (.aload_n 0, 1) := by decide +kernel
theorem dX9_rests_124 : decode cX9_rests 124 = .ok (.getfield 86, 3) := by decide +kernel
theorem dX9_rests_127 : decode cX9_rests 127 = .ok (.iload_n 1, 1) := by decide +kernel
theorem dX9_rests_128 : decode cX9_rests 128 = .ok (.iaload, 1) := by decide +kernel
theorem dX9_rests_129 : decode cX9_rests 129 = .ok (.iadd, 1) := by decide +kernel
theorem dX9_rests_130 : decode cX9_rests 130 = .ok (.iload_n 3, 1) := by decide +kernel
theorem dX9_rests_131 : decode cX9_rests 131 = .ok (.iastore, 1) := by decide +kernel
theorem dX9_rests_132 : decode cX9_rests 132 = .ok (.aload_n 0, 1) := by decide +kernel
theorem dX9_rests_133 : decode cX9_rests 133 = .ok (.getfield 92, 3) := by decide +kernel
theorem dX9_rests_136 : decode cX9_rests 136 = .ok (.bipush 8, 2) := by decide +kernel
theorem dX9_rests_138 : decode cX9_rests 138 = .ok (.iload_n 1, 1) := by decide +kernel
theorem dX9_rests_139 : decode cX9_rests 139 = .ok (.imul, 1) := by decide +kernel
theorem dX9_rests_140 : decode cX9_rests 140 = .ok (.aload_n 0, 1) := by decide +kernel
theorem dX9_rests_141 : decode cX9_rests 141 = .ok (.getfield 86, 3) := by decide +kernel
theorem dX9_rests_144 : decode cX9_rests 144 = .ok (.iload_n 1, 1) := by decide +kernel
theorem dX9_rests_145 : decode cX9_rests 145 = .ok (.iaload, 1) := by decide +kernel
theorem dX9_rests_146 : decode cX9_rests 146 = .ok (.iadd, 1) := by decide +kernel
theorem dX9_rests_147 : decode cX9_rests 147 = .ok (.iload 4, 2) := by decide +kernel
theorem dX9_rests_149 : decode cX9_rests 149 = .ok (.iastore, 1) := by decide +kernel
theorem dX9_rests_150 : decode cX9_rests 150 = .ok (.aload_n 0, 1) := by decide +kernel
theorem dX9_rests_151 : decode cX9_rests 151 = .ok (.getfield 86, 3) := by decide +kernel
theorem dX9_rests_154 : decode cX9_rests 154 = .ok (.iload_n 1, 1) := by decide +kernel
theorem dX9_rests_155 : decode cX9_rests 155 = .ok (.dup2, 1) := by decide +kernel
theorem dX9_rests_156 : decode cX9_rests 156 = .ok (.iaload, 1) := by decide +kernel
theorem dX9_rests_157 : decode cX9_rests 157 = .ok (.iconst 1, 1) := by decide +kernel
theorem dX9_rests_158 : decode cX9_rests 158 = .ok (.iadd, 1) := by decide +kernel
theorem dX9_rests_159 : decode cX9_rests 159 = .ok (.iastore, 1) := by decide +kernel
theorem dX9_rests_160 : decode cX9_rests 160 = .ok (.goto 63, 3) := by decide +kernel
theorem dX9_rests_163 : decode cX9_rests 163 = .ok (.aload_n 0, 1) := by decide +kernel
theorem dX9_rests_164 : decode cX9_rests 164 = .ok (.getfield 86, 3) := by decide +kernel
theorem dX9_rests_167 : decode cX9_rests 167 = .ok (.iload_n 1, 1) := by decide +kernel
theorem dX9_rests_168 : decode cX9_rests 168 = .ok (.dup2, 1) := by decide +kernel
theorem dX9_rests_169 : decode cX9_rests 169 = .ok (.iaload, 1) := by decide +kernel
theorem dX9_rests_170 : decode cX9_rests 170 = .ok (.aload_n 0, 1) := by decide +kernel
theorem dX9_rests_171 : decode cX9_rests 171 = .ok (.getfield 86, 3) := by decide +kernel
theorem dX9_rests_174 : decode cX9_rests 174 = .ok (.iload_n 1, 1) := by decide +kernel
theorem dX9_rests_175 : decode cX9_rests 175 = .ok (.iaload, 1) := by decide +kernel
theorem dX9_rests_176 : decode cX9_rests 176 = .ok (.ifCond .le 7, 3) := by decide +kernel
theorem dX9_rests_179 : decode cX9_rests 179 = .ok (.iconst 1, 1) := by decide +kernel
theorem dX9_rests_180 : decode cX9_rests 180 = .ok (.goto 4, 3) := by decide +kernel
theorem dX9_rests_183 : decode cX9_rests 183 = .ok (.iconst 0, 1) := by decide +kernel
theorem dX9_rests_184 : decode cX9_rests 184 = .ok (.isub, 1) := by decide +kernel
theorem dX9_rests_185 : decode cX9_rests 185 = .ok (.iastore, 1) := by decide +kernel
theorem dX9_rests_186 : decode cX9_rests 186 = .ok (.goto 37, 3) := by decide +kernel
theorem dX9_rests_189 : decode cX9_rests 189 = .ok (.aload_n 0, 1) := by decide +kernel
theorem dX9_rests_190 : decode cX9_rests 190 = .ok (.getfield 95, 3) := by decide +kernel
theorem dX9_rests_193 : decode cX9_rests 193 = .ok (.iload 5, 2) := by decide +kernel
theorem dX9_rests_195 : decode cX9_rests 195 = .ok (.aload_n 0, 1) := by decide +kernel
theorem dX9_rests_196 : decode cX9_rests 196 = .ok (.getfield 80, 3) := by decide +kernel
theorem dX9_rests_199 : decode cX9_rests 199 = .ok (.iload_n 1, 1) := by decide +kernel
theorem dX9_rests_200 : decode cX9_rests 200 = .ok (.iaload, 1) := by decide +kernel
theorem dX9_rests_201 : decode cX9_rests 201 = .ok (.iastore, 1) := by decide +kernel
theorem dX9_rests_202 : decode cX9_rests 202 = .ok (.aload_n 0, 1) := by decide +kernel
theorem dX9_rests_203 : decode cX9_rests 203 = .ok (.getfield 95, 3) := by decide +kernel
theorem dX9_rests_206 : decode cX9_rests 206 = .ok (.bipush 6, 2) := by decide +kernel
theorem dX9_rests_208 : decode cX9_rests 208 = .ok (.iload_n 1, 1) := by decide +kernel
theorem dX9_rests_209 : decode cX9_rests 209 = .ok (.imul, 1) := by decide +kernel
theorem dX9_rests_210 : decode cX9_rests 210 = .ok (.iload 4, 2) := by decide +kernel
theorem dX9_rests_212 : decode cX9_rests 212 = .ok (.iadd, 1) := by decide +kernel
theorem dX9_rests_213 : decode cX9_rests 213 = .ok (.aload_n 0, 1) := by decide +kernel
theorem dX9_rests_214 : decode cX9_rests 214 = .ok (.getfield 83, 3) := by decide +kernel
theorem dX9_rests_217 : decode cX9_rests 217 = .ok (.iload_n 1, 1) := by decide +kernel
theorem dX9_rests_218 : decode cX9_rests 218 = .ok (.iaload, 1) := by decide +kernel
theorem dX9_rests_219 : decode cX9_rests 219 = .ok (.iastore, 1) := by decide +kernel
theorem dX9_rests_220 : decode cX9_rests 220 = .ok (.goto 3, 3) := by decide +kernel
theorem dX9_rests_223 : decode cX9_rests 223 = .ok (.return_, 1) := by decide +kernel
theorem dX9_told_0 : decode cX9_told 0 = .ok (.iload_n 1, 1) := by decide +kernel
theorem dX9_told_1 : decode cX9_told 1 = .ok (.iconst 0, 1) := by decide +kernel
theorem dX9_told_2 : decode cX9_told 2 = .ok (.iconst 5, 1) := by decide +kernel
theorem dX9_told_3 : decode cX9_told 3 = .ok (.invokestatic 114, 3) := by decide +kernel
theorem dX9_told_6 : decode cX9_told 6 = .ok (.ifCond .eq 13, 3) := by decide +kernel
theorem dX9_told_9 : decode cX9_told 9 = .ok (.iload_n 2, 1) := by decide +kernel
theorem dX9_told_10 : decode cX9_told 10 = .ok (.iconst 0, 1) := by decide +kernel
theorem dX9_told_11 : decode cX9_told 11 = .ok (.bipush 8, 2) := by decide +kernel
theorem dX9_told_13 : decode cX9_told 13 = .ok (.invokestatic 114, 3) := by decide +kernel
theorem dX9_told_16 : decode cX9_told 16 = .ok (.ifCond .ne 5, 3) := by decide +kernel
theorem dX9_told_19 : decode cX9_told 19 = .ok (.iconst (-1), 1) := by decide +kernel
theorem dX9_told_20 : decode cX9_told 20 = .ok (.ireturn, 1) := by decide +kernel
theorem dX9_told_21 : decode cX9_told 21 = .ok (.aload_n 0, 1) := by decide +kernel
theorem dX9_told_22 : decode cX9_told 22 = .ok (.getfield 40, 3) := by decide +kernel
theorem dX9_told_25 : decode cX9_told 25 = .ok (.iload_n 1, 1) := by decide +kernel
theorem dX9_told_26 : decode cX9_told 26 = .ok (.iaload, 1) := by decide +kernel
theorem dX9_told_27 : decode cX9_told 27 = .ok (.ifCond .eq 7, 3) := by decide +kernel
theorem dX9_told_30 : decode cX9_told 30 = .ok (.iconst 1, 1) := by decide +kernel
theorem dX9_told_31 : decode cX9_told 31 = .ok (.goto 4, 3) := by decide +kernel
theorem dX9_told_34 : decode cX9_told 34 = .ok (.iconst 0, 1) := by decide +kernel
theorem dX9_told_35 : decode cX9_told 35 = .ok (.istore_n 3, 1) := by decide +kernel
theorem dX9_told_36 : decode cX9_told 36 = .ok (.iload_n 2, 1) := by decide +kernel
theorem dX9_told_37 : decode cX9_told 37 = .ok (.tableswitch 174 0 7 #[47, 54, 61, 68, 75, 90, 131, 167], 47) := by decide +kernel
theorem dX9_told_84 : decode cX9_told 84 = .ok (.aload_n 0, 1) := by decide +kernel
theorem dX9_told_85 : decode cX9_told 85 = .ok (.getfield 40, 3) := by decide +kernel
theorem dX9_told_88 : decode cX9_told 88 = .ok (.iload_n 1, 1) := by decide +kernel
theorem dX9_told_89 : decode cX9_told 89 = .ok (.iaload, 1) := by decide +kernel
theorem dX9_told_90 : decode cX9_told 90 = .ok (.ireturn, 1) := by decide +kernel
theorem dX9_told_91 : decode cX9_told 91 = .ok (.aload_n 0, 1) := by decide +kernel
theorem dX9_told_92 : decode cX9_told 92 = .ok (.getfield 49, 3) := by decide +kernel
theorem dX9_told_95 : decode cX9_told 95 = .ok (.iload_n 1, 1) := by decide +kernel
theorem dX9_told_96 : decode cX9_told 96 = .ok (.iaload, 1) := by decide +kernel
theorem dX9_told_97 : decode cX9_told 97 = .ok (.ireturn, 1) := by decide +kernel
theorem dX9_told_98 : decode cX9_told 98 = .ok (.aload_n 0, 1) := by decide +kernel
theorem dX9_told_99 : decode cX9_told 99 = .ok (.getfield 59, 3) := by decide +kernel
theorem dX9_told_102 : decode cX9_told 102 = .ok (.iload_n 1, 1) := by decide +kernel
theorem dX9_told_103 : decode cX9_told 103 = .ok (.iaload, 1) := by decide +kernel
theorem dX9_told_104 : decode cX9_told 104 = .ok (.ireturn, 1) := by decide +kernel
theorem dX9_told_105 : decode cX9_told 105 = .ok (.aload_n 0, 1) := by decide +kernel
theorem dX9_told_106 : decode cX9_told 106 = .ok (.getfield 62, 3) := by decide +kernel
theorem dX9_told_109 : decode cX9_told 109 = .ok (.iload_n 1, 1) := by decide +kernel
theorem dX9_told_110 : decode cX9_told 110 = .ok (.iaload, 1) := by decide +kernel
theorem dX9_told_111 : decode cX9_told 111 = .ok (.ireturn, 1) := by decide +kernel
theorem dX9_told_112 : decode cX9_told 112 = .ok (.aload_n 0, 1) := by decide +kernel
theorem dX9_told_113 : decode cX9_told 113 = .ok (.getfield 52, 3) := by decide +kernel
theorem dX9_told_116 : decode cX9_told 116 = .ok (.iload_n 1, 1) := by decide +kernel
theorem dX9_told_117 : decode cX9_told 117 = .ok (.baload, 1) := by decide +kernel
theorem dX9_told_118 : decode cX9_told 118 = .ok (.ifCond .eq 7, 3) := by decide +kernel
theorem dX9_told_121 : decode cX9_told 121 = .ok (.iconst 1, 1) := by decide +kernel
theorem dX9_told_122 : decode cX9_told 122 = .ok (.goto 4, 3) := by decide +kernel
theorem dX9_told_125 : decode cX9_told 125 = .ok (.iconst 0, 1) := by decide +kernel
theorem dX9_told_126 : decode cX9_told 126 = .ok (.ireturn, 1) := by decide +kernel
theorem dX9_told_127 : decode cX9_told 127 = .ok (.iload_n 3, 1) := by decide +kernel
theorem dX9_told_128 : decode cX9_told 128 = .ok (.ifCond .eq 37, 3) := by decide +kernel
theorem dX9_told_131 : decode cX9_told 131 = .ok (.aload_n 0, 1) := by decide +kernel
theorem dX9_told_132 : decode cX9_told 132 = .ok (.getfield 40, 3) := by decide +kernel
theorem dX9_told_135 : decode cX9_told 135 = .ok (.iload_n 1, 1) := by decide +kernel
theorem dX9_told_136 : decode cX9_told 136 = .ok (.iaload, 1) := by decide +kernel
theorem dX9_told_137 : decode cX9_told 137 = .ok (.iconst 3, 1) := by decide +kernel
theorem dX9_told_138 : decode cX9_told 138 = .ok (.bipush 6, 2) := by decide +kernel
theorem dX9_told_140 : decode cX9_told 140 = .ok (.invokestatic 114, 3) := by decide +kernel
theorem dX9_told_143 : decode cX9_told 143 = .ok (.ifCond .eq 22, 3) := by decide +kernel
theorem dX9_told_146 : decode cX9_told 146 = .ok (.aload_n 0, 1) := by decide +kernel
theorem dX9_told_147 : decode cX9_told 147 = .ok (.getfield 40, 3) := by decide +kernel
theorem dX9_told_150 : decode cX9_told 150 = .ok (.iload_n 1, 1) := by decide +kernel
theorem dX9_told_151 : decode cX9_told 151 = .ok (.iaload, 1) := by decide +kernel
theorem dX9_told_152 : decode cX9_told 152 = .ok (.iconst 5, 1) := by decide +kernel
theorem dX9_told_153 : decode cX9_told 153 = .ok (.if_icmp .eq 12, 3) := by decide +kernel
theorem dX9_told_156 : decode cX9_told 156 = .ok (.aload_n 0, 1) := by decide +kernel
theorem dX9_told_157 : decode cX9_told 157 = .ok (.getfield 65, 3) := by decide +kernel
theorem dX9_told_160 : decode cX9_told 160 = .ok (.iload_n 1, 1) := by decide +kernel
theorem dX9_told_161 : decode cX9_told 161 = .ok (.iaload, 1) := by decide +kernel
theorem dX9_told_162 : decode cX9_told 162 = .ok (.goto 5, 3) := by decide +kernel
theorem dX9_told_165 : decode cX9_told 165 = .ok (.bipush (-4), 2) := by decide +kernel
theorem dX9_told_167 : decode cX9_told 167 = .ok (.ireturn, 1) := by decide +kernel
theorem dX9_told_168 : decode cX9_told 168 = .ok (.iload_n 3, 1) := by decide +kernel
theorem dX9_told_169 : decode cX9_told 169 = .ok (.ifCond .eq 32, 3) := by decide +kernel
theorem dX9_told_172 : decode cX9_told 172 = .ok (.aload_n 0, 1) := by decide +kernel
theorem dX9_told_173 : decode cX9_told 173 = .ok (.getfield 40, 3) := by decide +kernel
theorem dX9_told_176 : decode cX9_told 176 = .ok (.iload_n 1, 1) := by decide +kernel
theorem dX9_told_177 : decode cX9_told 177 = .ok (.iaload, 1) := by decide +kernel
theorem dX9_told_178 : decode cX9_told 178 = .ok (.iconst 5, 1) := by decide +kernel
theorem dX9_told_179 : decode cX9_told 179 = .ok (.if_icmp .eq 13, 3) := by decide +kernel
theorem dX9_told_182 : decode cX9_told 182 = .ok (.aload_n 0, 1) := by decide +kernel
theorem dX9_told_183 : decode cX9_told 183 = .ok (.getfield 40, 3) := by decide +kernel
theorem dX9_told_186 : decode cX9_told 186 = .ok (.iload_n 1, 1) := by decide +kernel
theorem dX9_told_187 : decode cX9_told 187 = .ok (.iaload, 1) := by decide +kernel
theorem dX9_told_188 : decode cX9_told 188 = .ok (.iconst 4, 1) := by decide +kernel
theorem dX9_told_189 : decode cX9_told 189 = .ok (.if_icmp .ne 12, 3) := by decide +kernel
theorem dX9_told_192 : decode cX9_told 192 = .ok (.aload_n 0, 1) := by decide +kernel
theorem dX9_told_193 : decode cX9_told 193 = .ok (.getfield 68, 3) := by decide +kernel
theorem dX9_told_196 : decode cX9_told 196 = .ok (.iload_n 1, 1) := by decide +kernel
theorem dX9_told_197 : decode cX9_told 197 = .ok (.iaload, 1) := by decide +kernel
theorem dX9_told_198 : decode cX9_told 198 = .ok (.goto 5, 3) := by decide +kernel
theorem dX9_told_201 : decode cX9_told 201 = .ok (.bipush (-4), 2) := by decide +kernel
theorem dX9_told_203 : decode cX9_told 203 = .ok (.ireturn, 1) := by decide +kernel
theorem dX9_told_204 : decode cX9_told 204 = .ok (.aload_n 0, 1) := by decide +kernel
theorem dX9_told_205 : decode cX9_told 205 = .ok (.getfield 86, 3) := by decide +kernel
theorem dX9_told_208 : decode cX9_told 208 = .ok (.iload_n 1, 1) := by decide +kernel
theorem dX9_told_209 : decode cX9_told 209 = .ok (.iaload, 1) := by decide +kernel
theorem dX9_told_210 : decode cX9_told 210 = .ok (.ireturn, 1) := by decide +kernel
theorem dX9_told_211 : decode cX9_told 211 = .ok (.aload_n 0, 1) := by decide +kernel
theorem dX9_told_212 : decode cX9_told 212 = .ok (.getfield 77, 3) := by decide +kernel
theorem dX9_told_215 : decode cX9_told 215 = .ok (.iload_n 1, 1) := by decide +kernel
theorem dX9_told_216 : decode cX9_told 216 = .ok (.iaload, 1) := by decide +kernel
theorem dX9_told_217 : decode cX9_told 217 = .ok (.ireturn, 1) := by decide +kernel
theorem dX9_register_0 : decode cX9_register 0 = .ok (.iload_n 1, 1) := by decide +kernel
theorem dX9_register_1 : decode cX9_register 1 = .ok (.iconst 0, 1) := by decide +kernel
theorem dX9_register_2 : decode cX9_register 2 = .ok (.iconst 5, 1) := by decide +kernel
theorem dX9_register_3 : decode cX9_register 3 = .ok (.invokestatic 114, 3) := by decide +kernel
theorem dX9_register_6 : decode cX9_register 6 = .ok (.ifCond .eq 26, 3) := by decide +kernel
theorem dX9_register_9 : decode cX9_register 9 = .ok (.iload_n 2, 1) := by decide +kernel
theorem dX9_register_10 : decode cX9_register 10 = .ok (.iconst 0, 1) := by decide +kernel
theorem dX9_register_11 : decode cX9_register 11 = .ok (.iconst 5, 1) := by decide +kernel
theorem dX9_register_12 : decode cX9_register 12 = .ok (.invokestatic 114, 3) := by decide +kernel
theorem dX9_register_15 : decode cX9_register 15 = .ok (.ifCond .eq 17, 3) := by decide +kernel
theorem dX9_register_18 : decode cX9_register 18 = .ok (.aload_n 0, 1) := by decide +kernel
theorem dX9_register_19 : decode cX9_register 19 = .ok (.getfield 95, 3) := by decide +kernel
theorem dX9_register_22 : decode cX9_register 22 = .ok (.bipush 6, 2) := by decide +kernel
theorem dX9_register_24 : decode cX9_register 24 = .ok (.iload_n 1, 1) := by decide +kernel
theorem dX9_register_25 : decode cX9_register 25 = .ok (.imul, 1) := by decide +kernel
theorem dX9_register_26 : decode cX9_register 26 = .ok (.iload_n 2, 1) := by decide +kernel
theorem dX9_register_27 : decode cX9_register 27 = .ok (.iadd, 1) := by decide +kernel
theorem dX9_register_28 : decode cX9_register 28 = .ok (.iaload, 1) := by decide +kernel
theorem dX9_register_29 : decode cX9_register 29 = .ok (.goto 4, 3) := by decide +kernel
theorem dX9_register_32 : decode cX9_register 32 = .ok (.iconst (-1), 1) := by decide +kernel
theorem dX9_register_33 : decode cX9_register 33 = .ok (.ireturn, 1) := by decide +kernel
theorem dX9_hand_0 : decode cX9_hand 0 = .ok (.iload_n 1, 1) := by decide +kernel
theorem dX9_hand_1 : decode cX9_hand 1 = .ok (.iconst 0, 1) := by decide +kernel
theorem dX9_hand_2 : decode cX9_hand 2 = .ok (.iconst 5, 1) := by decide +kernel
theorem dX9_hand_3 : decode cX9_hand 3 = .ok (.invokestatic 114, 3) := by decide +kernel
theorem dX9_hand_6 : decode cX9_hand 6 = .ok (.ifCond .eq 12, 3) := by decide +kernel
theorem dX9_hand_9 : decode cX9_hand 9 = .ok (.iload_n 2, 1) := by decide +kernel
theorem dX9_hand_10 : decode cX9_hand 10 = .ok (.iconst 0, 1) := by decide +kernel
theorem dX9_hand_11 : decode cX9_hand 11 = .ok (.iconst 5, 1) := by decide +kernel
theorem dX9_hand_12 : decode cX9_hand 12 = .ok (.invokestatic 114, 3) := by decide +kernel
theorem dX9_hand_15 : decode cX9_hand 15 = .ok (.ifCond .ne 5, 3) := by decide +kernel
theorem dX9_hand_18 : decode cX9_hand 18 = .ok (.iconst (-1), 1) := by decide +kernel
theorem dX9_hand_19 : decode cX9_hand 19 = .ok (.ireturn, 1) := by decide +kernel
theorem dX9_hand_20 : decode cX9_hand 20 = .ok (.aload_n 0, 1) := by decide +kernel
theorem dX9_hand_21 : decode cX9_hand 21 = .ok (.getfield 40, 3) := by decide +kernel
theorem dX9_hand_24 : decode cX9_hand 24 = .ok (.iload_n 1, 1) := by decide +kernel
theorem dX9_hand_25 : decode cX9_hand 25 = .ok (.iaload, 1) := by decide +kernel
theorem dX9_hand_26 : decode cX9_hand 26 = .ok (.ifCond .ne 8, 3) := by decide +kernel
theorem dX9_hand_29 : decode cX9_hand 29 = .ok (.bipush (-4), 2) := by decide +kernel
theorem dX9_hand_31 : decode cX9_hand 31 = .ok (.goto 14, 3) := by decide +kernel
theorem dX9_hand_34 : decode cX9_hand 34 = .ok (.aload_n 0, 1) := by decide +kernel
theorem dX9_hand_35 : decode cX9_hand 35 = .ok (.getfield 98, 3) := by decide +kernel
theorem dX9_hand_38 : decode cX9_hand 38 = .ok (.bipush 6, 2) := by decide +kernel
theorem dX9_hand_40 : decode cX9_hand 40 = .ok (.iload_n 1, 1) := by decide +kernel
theorem dX9_hand_41 : decode cX9_hand 41 = .ok (.imul, 1) := by decide +kernel
theorem dX9_hand_42 : decode cX9_hand 42 = .ok (.iload_n 2, 1) := by decide +kernel
theorem dX9_hand_43 : decode cX9_hand 43 = .ok (.iadd, 1) := by decide +kernel
theorem dX9_hand_44 : decode cX9_hand 44 = .ok (.iaload, 1) := by decide +kernel
theorem dX9_hand_45 : decode cX9_hand 45 = .ok (.ireturn, 1) := by decide +kernel
theorem dX9_hangsOn_0 : decode cX9_hangsOn 0 = .ok (.aload_n 0, 1) := by decide +kernel
theorem dX9_hangsOn_1 : decode cX9_hangsOn 1 = .ok (.getfield 40, 3) := by decide +kernel
theorem dX9_hangsOn_4 : decode cX9_hangsOn 4 = .ok (.iload_n 1, 1) := by decide +kernel
theorem dX9_hangsOn_5 : decode cX9_hangsOn 5 = .ok (.iaload, 1) := by decide +kernel
theorem dX9_hangsOn_6 : decode cX9_hangsOn 6 = .ok (.iconst 3, 1) := by decide +kernel
theorem dX9_hangsOn_7 : decode cX9_hangsOn 7 = .ok (.if_icmp .ne 17, 3) := by decide +kernel
theorem dX9_hangsOn_10 : decode cX9_hangsOn 10 = .ok (.aload_n 0, 1) := by decide +kernel
theorem dX9_hangsOn_11 : decode cX9_hangsOn 11 = .ok (.getfield 22, 3) := by decide +kernel
theorem dX9_hangsOn_14 : decode cX9_hangsOn 14 = .ok (.aload_n 0, 1) := by decide +kernel
theorem dX9_hangsOn_15 : decode cX9_hangsOn 15 = .ok (.getfield 65, 3) := by decide +kernel
theorem dX9_hangsOn_18 : decode cX9_hangsOn 18 = .ok (.iload_n 1, 1) := by decide +kernel
theorem dX9_hangsOn_19 : decode cX9_hangsOn 19 = .ok (.iaload, 1) := by decide +kernel
theorem dX9_hangsOn_20 : decode cX9_hangsOn 20 = .ok (.iaload, 1) := by decide +kernel
theorem dX9_hangsOn_21 : decode cX9_hangsOn 21 = .ok (.goto 25, 3) := by decide +kernel
theorem dX9_hangsOn_24 : decode cX9_hangsOn 24 = .ok (.aload_n 0, 1) := by decide +kernel
theorem dX9_hangsOn_25 : decode cX9_hangsOn 25 = .ok (.getfield 40, 3) := by decide +kernel
theorem dX9_hangsOn_28 : decode cX9_hangsOn 28 = .ok (.iload_n 1, 1) := by decide +kernel
theorem dX9_hangsOn_29 : decode cX9_hangsOn 29 = .ok (.iaload, 1) := by decide +kernel
theorem dX9_hangsOn_30 : decode cX9_hangsOn 30 = .ok (.bipush 6, 2) := by decide +kernel
theorem dX9_hangsOn_32 : decode cX9_hangsOn 32 = .ok (.if_icmp .ne 12, 3) := by decide +kernel
theorem dX9_hangsOn_35 : decode cX9_hangsOn 35 = .ok (.aload_n 0, 1) := by decide +kernel
theorem dX9_hangsOn_36 : decode cX9_hangsOn 36 = .ok (.getfield 65, 3) := by decide +kernel
theorem dX9_hangsOn_39 : decode cX9_hangsOn 39 = .ok (.iload_n 1, 1) := by decide +kernel
theorem dX9_hangsOn_40 : decode cX9_hangsOn 40 = .ok (.iaload, 1) := by decide +kernel
theorem dX9_hangsOn_41 : decode cX9_hangsOn 41 = .ok (.goto 5, 3) := by decide +kernel
theorem dX9_hangsOn_44 : decode cX9_hangsOn 44 = .ok (.bipush (-4), 2) := by decide +kernel
theorem dX9_hangsOn_46 : decode cX9_hangsOn 46 = .ok (.ireturn, 1) := by decide +kernel
theorem dX9_ring_0 : decode cX9_ring 0 = .ok (.iload_n 1, 1) := by decide +kernel
theorem dX9_ring_1 : decode cX9_ring 1 = .ok (.ifCond .ge 5, 3) := by decide +kernel
theorem dX9_ring_4 : decode cX9_ring 4 = .ok (.iconst (-1), 1) := by decide +kernel
theorem dX9_ring_5 : decode cX9_ring 5 = .ok (.ireturn, 1) := by decide +kernel
theorem dX9_ring_6 : decode cX9_ring 6 = .ok (.iconst 0, 1) := by decide +kernel
theorem dX9_ring_7 : decode cX9_ring 7 = .ok (.istore_n 2, 1) := by decide +kernel
theorem dX9_ring_8 : decode cX9_ring 8 = .ok (.iload_n 2, 1) := by decide +kernel
theorem dX9_ring_9 : decode cX9_ring 9 = .ok (.bipush 6, 2) := by decide +kernel
theorem dX9_ring_11 : decode cX9_ring 11 = .ok (.if_icmp .ge 108, 3) := by decide +kernel
theorem dX9_ring_14 : decode cX9_ring 14 = .ok (.iconst 0, 1) := by decide +kernel
theorem dX9_ring_15 : decode cX9_ring 15 = .ok (.istore_n 3, 1) := by decide +kernel
theorem dX9_ring_16 : decode cX9_ring 16 = .ok (.iload_n 2, 1) := by decide +kernel
theorem dX9_ring_17 : decode cX9_ring 17 = .ok (.istore 4, 2) := by decide +kernel
theorem dX9_ring_19 : decode cX9_ring 19 = .ok (.iload 4, 2) := by decide +kernel
theorem dX9_ring_21 : decode cX9_ring 21 = .ok (.bipush (-4), 2) := by decide +kernel
theorem dX9_ring_23 : decode cX9_ring 23 = .ok (.if_icmp .eq 33, 3) := by decide +kernel
theorem dX9_ring_26 : decode cX9_ring 26 = .ok (.iload_n 3, 1) := by decide +kernel
theorem dX9_ring_27 : decode cX9_ring 27 = .ok (.bipush 7, 2) := by decide +kernel
theorem dX9_ring_29 : decode cX9_ring 29 = .ok (.if_icmp .ge 27, 3) := by decide +kernel
theorem dX9_ring_32 : decode cX9_ring 32 = .ok (.iload_n 3, 1) := by decide +kernel
theorem dX9_ring_33 : decode cX9_ring 33 = .ok (.ifCond .eq 9, 3) := by decide +kernel
theorem dX9_ring_36 : decode cX9_ring 36 = .ok (.iload 4, 2) := by decide +kernel
theorem dX9_ring_38 : decode cX9_ring 38 = .ok (.iload_n 2, 1) := by decide +kernel
theorem dX9_ring_39 : decode cX9_ring 39 = .ok (.if_icmp .eq 17, 3) := by decide +kernel
theorem dX9_ring_42 : decode cX9_ring 42 = .ok (.aload_n 0, 1) := by decide +kernel
theorem dX9_ring_43 : decode cX9_ring 43 = .ok (.iload 4, 2) := by decide +kernel
theorem dX9_ring_45 : decode cX9_ring 45 = .ok (.invokevirtual 264, 3) := by decide +kernel
theorem dX9_ring_48 : decode cX9_ring 48 = .ok (.istore 4, 2) := by decide +kernel
theorem dX9_ring_50 : decode cX9_ring 50 = .ok (.iinc 3 1, 3) := by decide +kernel
theorem dX9_ring_53 : decode cX9_ring 53 = .ok (.goto (-34), 3) := by decide +kernel
theorem dX9_ring_56 : decode cX9_ring 56 = .ok (.iload 4, 2) := by decide +kernel
theorem dX9_ring_58 : decode cX9_ring 58 = .ok (.iload_n 2, 1) := by decide +kernel
theorem dX9_ring_59 : decode cX9_ring 59 = .ok (.if_icmp .ne 54, 3) := by decide +kernel
theorem dX9_ring_62 : decode cX9_ring 62 = .ok (.iload_n 3, 1) := by decide +kernel
theorem dX9_ring_63 : decode cX9_ring 63 = .ok (.bipush 7, 2) := by decide +kernel
theorem dX9_ring_65 : decode cX9_ring 65 = .ok (.if_icmp .ge 48, 3) := by decide +kernel
theorem dX9_ring_68 : decode cX9_ring 68 = .ok (.iload_n 2, 1) := by decide +kernel
theorem dX9_ring_69 : decode cX9_ring 69 = .ok (.istore 5, 2) := by decide +kernel
theorem dX9_ring_71 : decode cX9_ring 71 = .ok (.iconst 0, 1) := by decide +kernel
theorem dX9_ring_72 : decode cX9_ring 72 = .ok (.istore 6, 2) := by decide +kernel
theorem dX9_ring_74 : decode cX9_ring 74 = .ok (.iload 6, 2) := by decide +kernel
theorem dX9_ring_76 : decode cX9_ring 76 = .ok (.iload_n 1, 1) := by decide +kernel
theorem dX9_ring_77 : decode cX9_ring 77 = .ok (.if_icmp .ge 23, 3) := by decide +kernel
theorem dX9_ring_80 : decode cX9_ring 80 = .ok (.iload 6, 2) := by decide +kernel
theorem dX9_ring_82 : decode cX9_ring 82 = .ok (.iload_n 3, 1) := by decide +kernel
theorem dX9_ring_83 : decode cX9_ring 83 = .ok (.if_icmp .ge 17, 3) := by decide +kernel
theorem dX9_ring_86 : decode cX9_ring 86 = .ok (.aload_n 0, 1) := by decide +kernel
theorem dX9_ring_87 : decode cX9_ring 87 = .ok (.iload 5, 2) := by decide +kernel
theorem dX9_ring_89 : decode cX9_ring 89 = .ok (.invokevirtual 264, 3) := by decide +kernel
theorem dX9_ring_92 : decode cX9_ring 92 = .ok (.istore 5, 2) := by decide +kernel
theorem dX9_ring_94 : decode cX9_ring 94 = .ok (.iinc 6 1, 3) := by decide +kernel
theorem dX9_ring_97 : decode cX9_ring 97 = .ok (.goto (-23), 3) := by decide +kernel
theorem dX9_ring_100 : decode cX9_ring 100 = .ok (.iload_n 1, 1) := by decide +kernel
theorem dX9_ring_101 : decode cX9_ring 101 = .ok (.iload_n 3, 1) := by decide +kernel
theorem dX9_ring_102 : decode cX9_ring 102 = .ok (.if_icmp .ge 8, 3) := by decide +kernel
theorem dX9_ring_105 : decode cX9_ring 105 = .ok (.iload 5, 2) := by decide +kernel
theorem dX9_ring_107 : decode cX9_ring 107 = .ok (.goto 5, 3) := by decide +kernel
theorem dX9_ring_110 : decode cX9_ring 110 = .ok (.bipush (-4), 2) := by decide +kernel
theorem dX9_ring_112 : decode cX9_ring 112 = .ok (.ireturn, 1) := by decide +kernel
theorem dX9_ring_113 : decode cX9_ring 113 = .ok (.iinc 2 1, 3) := by decide +kernel
theorem dX9_ring_116 : decode cX9_ring 116 = .ok (.goto (-108), 3) := by decide +kernel
theorem dX9_ring_119 : decode cX9_ring 119 = .ok (.bipush (-4), 2) := by decide +kernel
theorem dX9_ring_121 : decode cX9_ring 121 = .ok (.ireturn, 1) := by decide +kernel
theorem dX9_log_0 : decode cX9_log 0 = .ok (.iload_n 1, 1) := by decide +kernel
theorem dX9_log_1 : decode cX9_log 1 = .ok (.ifCond .lt 12, 3) := by decide +kernel
theorem dX9_log_4 : decode cX9_log 4 = .ok (.iload_n 2, 1) := by decide +kernel
theorem dX9_log_5 : decode cX9_log 5 = .ok (.iconst 0, 1) := by decide +kernel
theorem dX9_log_6 : decode cX9_log 6 = .ok (.iconst 2, 1) := by decide +kernel
theorem dX9_log_7 : decode cX9_log 7 = .ok (.invokestatic 114, 3) := by decide +kernel
theorem dX9_log_10 : decode cX9_log 10 = .ok (.ifCond .ne 5, 3) := by decide +kernel
theorem dX9_log_13 : decode cX9_log 13 = .ok (.iconst (-1), 1) := by decide +kernel
theorem dX9_log_14 : decode cX9_log 14 = .ok (.ireturn, 1) := by decide +kernel
theorem dX9_log_15 : decode cX9_log 15 = .ok (.iload_n 1, 1) := by decide +kernel
theorem dX9_log_16 : decode cX9_log 16 = .ok (.bipush 60, 2) := by decide +kernel
theorem dX9_log_18 : decode cX9_log 18 = .ok (.if_icmp .ge 34, 3) := by decide +kernel
theorem dX9_log_21 : decode cX9_log 21 = .ok (.iload_n 1, 1) := by decide +kernel
theorem dX9_log_22 : decode cX9_log 22 = .ok (.aload_n 0, 1) := by decide +kernel
theorem dX9_log_23 : decode cX9_log 23 = .ok (.getfield 204, 3) := by decide +kernel
theorem dX9_log_26 : decode cX9_log 26 = .ok (.if_icmp .ge 26, 3) := by decide +kernel
theorem dX9_log_29 : decode cX9_log 29 = .ok (.aload_n 0, 1) := by decide +kernel
theorem dX9_log_30 : decode cX9_log 30 = .ok (.getfield 108, 3) := by decide +kernel
theorem dX9_log_33 : decode cX9_log 33 = .ok (.iconst 3, 1) := by decide +kernel
theorem dX9_log_34 : decode cX9_log 34 = .ok (.aload_n 0, 1) := by decide +kernel
theorem dX9_log_35 : decode cX9_log 35 = .ok (.getfield 204, 3) := by decide +kernel
theorem dX9_log_38 : decode cX9_log 38 = .ok (.iconst 1, 1) := by decide +kernel
theorem dX9_log_39 : decode cX9_log 39 = .ok (.isub, 1) := by decide +kernel
theorem dX9_log_40 : decode cX9_log 40 = .ok (.iload_n 1, 1) := by decide +kernel
theorem dX9_log_41 : decode cX9_log 41 = .ok (.isub, 1) := by decide +kernel
theorem dX9_log_42 : decode cX9_log 42 = .ok (.bipush 60, 2) := by decide +kernel
theorem dX9_log_44 : decode cX9_log 44 = .ok (.irem, 1) := by decide +kernel
theorem dX9_log_45 : decode cX9_log 45 = .ok (.imul, 1) := by decide +kernel
theorem dX9_log_46 : decode cX9_log 46 = .ok (.iload_n 2, 1) := by decide +kernel
theorem dX9_log_47 : decode cX9_log 47 = .ok (.iadd, 1) := by decide +kernel
theorem dX9_log_48 : decode cX9_log 48 = .ok (.iaload, 1) := by decide +kernel
theorem dX9_log_49 : decode cX9_log 49 = .ok (.goto 5, 3) := by decide +kernel
theorem dX9_log_52 : decode cX9_log 52 = .ok (.bipush (-4), 2) := by decide +kernel
theorem dX9_log_54 : decode cX9_log 54 = .ok (.ireturn, 1) := by decide +kernel
theorem dX9_count_0 : decode cX9_count 0 = .ok (.iload_n 1, 1) := by decide +kernel
theorem dX9_count_1 : decode cX9_count 1 = .ok (.iconst 0, 1) := by decide +kernel
theorem dX9_count_2 : decode cX9_count 2 = .ok (.bipush 16, 2) := by decide +kernel
theorem dX9_count_4 : decode cX9_count 4 = .ok (.invokestatic 114, 3) := by decide +kernel
theorem dX9_count_7 : decode cX9_count 7 = .ok (.ifCond .ne 5, 3) := by decide +kernel
theorem dX9_count_10 : decode cX9_count 10 = .ok (.iconst (-1), 1) := by decide +kernel
theorem dX9_count_11 : decode cX9_count 11 = .ok (.ireturn, 1) := by decide +kernel
theorem dX9_count_12 : decode cX9_count 12 = .ok (.iconst 0, 1) := by decide +kernel
theorem dX9_count_13 : decode cX9_count 13 = .ok (.istore_n 2, 1) := by decide +kernel
theorem dX9_count_14 : decode cX9_count 14 = .ok (.iconst 0, 1) := by decide +kernel
theorem dX9_count_15 : decode cX9_count 15 = .ok (.istore_n 3, 1) := by decide +kernel
theorem dX9_count_16 : decode cX9_count 16 = .ok (.iload_n 3, 1) := by decide +kernel
theorem dX9_count_17 : decode cX9_count 17 = .ok (.bipush 6, 2) := by decide +kernel
theorem dX9_count_19 : decode cX9_count 19 = .ok (.if_icmp .ge 25, 3) := by decide +kernel
theorem dX9_count_22 : decode cX9_count 22 = .ok (.iload_n 2, 1) := by decide +kernel
theorem dX9_count_23 : decode cX9_count 23 = .ok (.aload_n 0, 1) := by decide +kernel
theorem dX9_count_24 : decode cX9_count 24 = .ok (.iload_n 3, 1) := by decide +kernel
theorem dX9_count_25 : decode cX9_count 25 = .ok (.invokevirtual 143, 3) := by decide +kernel
theorem dX9_count_28 : decode cX9_count 28 = .ok (.ifCond .eq 7, 3) := by decide +kernel
theorem dX9_count_31 : decode cX9_count 31 = .ok (.iconst 1, 1) := by decide +kernel
theorem dX9_count_32 : decode cX9_count 32 = .ok (.goto 4, 3) := by decide +kernel
theorem dX9_count_35 : decode cX9_count 35 = .ok (.iconst 0, 1) := by decide +kernel
theorem dX9_count_36 : decode cX9_count 36 = .ok (.iadd, 1) := by decide +kernel
theorem dX9_count_37 : decode cX9_count 37 = .ok (.istore_n 2, 1) := by decide +kernel
theorem dX9_count_38 : decode cX9_count 38 = .ok (.iinc 3 1, 3) := by decide +kernel
theorem dX9_count_41 : decode cX9_count 41 = .ok (.goto (-25), 3) := by decide +kernel
theorem dX9_count_44 : decode cX9_count 44 = .ok (.iload_n 1, 1) := by decide +kernel
theorem dX9_count_45 : decode cX9_count 45 = .ok (.tableswitch 110 0 16 #[83, 110, 110, 110, 110, 110, 110, 110, 110, 110, 110, 110, 88, 93, 98, 100, 105], 83) := by decide +kernel
theorem dX9_count_128 : decode cX9_count 128 = .ok (.aload_n 0, 1) := by decide +kernel
theorem dX9_count_129 : decode cX9_count 129 = .ok (.getfield 174, 3) := by decide +kernel
theorem dX9_count_132 : decode cX9_count 132 = .ok (.ireturn, 1) := by decide +kernel
theorem dX9_count_133 : decode cX9_count 133 = .ok (.aload_n 0, 1) := by decide +kernel
theorem dX9_count_134 : decode cX9_count 134 = .ok (.getfield 207, 3) := by decide +kernel
theorem dX9_count_137 : decode cX9_count 137 = .ok (.ireturn, 1) := by decide +kernel
theorem dX9_count_138 : decode cX9_count 138 = .ok (.aload_n 0, 1) := by decide +kernel
theorem dX9_count_139 : decode cX9_count 139 = .ok (.getfield 111, 3) := by decide +kernel
theorem dX9_count_142 : decode cX9_count 142 = .ok (.ireturn, 1) := by decide +kernel
theorem dX9_count_143 : decode cX9_count 143 = .ok (.iload_n 2, 1) := by decide +kernel
theorem dX9_count_144 : decode cX9_count 144 = .ok (.ireturn, 1) := by decide +kernel
theorem dX9_count_145 : decode cX9_count 145 = .ok (.aload_n 0, 1) := by decide +kernel
theorem dX9_count_146 : decode cX9_count 146 = .ok (.getfield 194, 3) := by decide +kernel
theorem dX9_count_149 : decode cX9_count 149 = .ok (.ireturn, 1) := by decide +kernel
theorem dX9_count_150 : decode cX9_count 150 = .ok (.aload_n 0, 1) := by decide +kernel
theorem dX9_count_151 : decode cX9_count 151 = .ok (.getfield 210, 3) := by decide +kernel
theorem dX9_count_154 : decode cX9_count 154 = .ok (.ireturn, 1) := by decide +kernel
theorem dX9_count_155 : decode cX9_count 155 = .ok (.aload_n 0, 1) := by decide +kernel
theorem dX9_count_156 : decode cX9_count 156 = .ok (.getfield 105, 3) := by decide +kernel
theorem dX9_count_159 : decode cX9_count 159 = .ok (.iload_n 1, 1) := by decide +kernel
theorem dX9_count_160 : decode cX9_count 160 = .ok (.iaload, 1) := by decide +kernel
theorem dX9_count_161 : decode cX9_count 161 = .ok (.ireturn, 1) := by decide +kernel
theorem dJ9_floorMod_7cf53_0 : decode cJ9_floorMod_7cf53 0 = .ok (.iload_n 0, 1) := by decide +kernel
theorem dJ9_floorMod_7cf53_1 : decode cJ9_floorMod_7cf53 1 = .ok (.iload_n 1, 1) := by decide +kernel
theorem dJ9_floorMod_7cf53_2 : decode cJ9_floorMod_7cf53 2 = .ok (.irem, 1) := by decide +kernel
theorem dJ9_floorMod_7cf53_3 : decode cJ9_floorMod_7cf53 3 = .ok (.istore_n 2, 1) := by decide +kernel
theorem dJ9_floorMod_7cf53_4 : decode cJ9_floorMod_7cf53 4 = .ok (.iload_n 0, 1) := by decide +kernel
theorem dJ9_floorMod_7cf53_5 : decode cJ9_floorMod_7cf53 5 = .ok (.iload_n 1, 1) := by decide +kernel
theorem dJ9_floorMod_7cf53_6 : decode cJ9_floorMod_7cf53 6 = .ok (.ixor, 1) := by decide +kernel
theorem dJ9_floorMod_7cf53_7 : decode cJ9_floorMod_7cf53 7 = .ok (.ifCond .ge 11, 3) := by decide +kernel
theorem dJ9_floorMod_7cf53_10 : decode cJ9_floorMod_7cf53 10 = .ok (.iload_n 2, 1) := by decide +kernel
theorem dJ9_floorMod_7cf53_11 : decode cJ9_floorMod_7cf53 11 = .ok (.ifCond .eq 7, 3) := by decide +kernel
theorem dJ9_floorMod_7cf53_14 : decode cJ9_floorMod_7cf53 14 = .ok (.iload_n 2, 1) := by decide +kernel
theorem dJ9_floorMod_7cf53_15 : decode cJ9_floorMod_7cf53 15 = .ok (.iload_n 1, 1) := by decide +kernel
theorem dJ9_floorMod_7cf53_16 : decode cJ9_floorMod_7cf53 16 = .ok (.iadd, 1) := by decide +kernel
theorem dJ9_floorMod_7cf53_17 : decode cJ9_floorMod_7cf53 17 = .ok (.ireturn, 1) := by decide +kernel
theorem dJ9_floorMod_7cf53_18 : decode cJ9_floorMod_7cf53 18 = .ok (.iload_n 2, 1) := by decide +kernel
theorem dJ9_floorMod_7cf53_19 : decode cJ9_floorMod_7cf53 19 = .ok (.ireturn, 1) := by decide +kernel
theorem dJ9_max_7cf53_0 : decode cJ9_max_7cf53 0 = .ok (.iload_n 0, 1) := by decide +kernel
theorem dJ9_max_7cf53_1 : decode cJ9_max_7cf53 1 = .ok (.iload_n 1, 1) := by decide +kernel
theorem dJ9_max_7cf53_2 : decode cJ9_max_7cf53 2 = .ok (.if_icmp .lt 7, 3) := by decide +kernel
theorem dJ9_max_7cf53_5 : decode cJ9_max_7cf53 5 = .ok (.iload_n 0, 1) := by decide +kernel
theorem dJ9_max_7cf53_6 : decode cJ9_max_7cf53 6 = .ok (.goto 4, 3) := by decide +kernel
theorem dJ9_max_7cf53_9 : decode cJ9_max_7cf53 9 = .ok (.iload_n 1, 1) := by decide +kernel
theorem dJ9_max_7cf53_10 : decode cJ9_max_7cf53 10 = .ok (.ireturn, 1) := by decide +kernel
theorem dJ9_min_7cf53_0 : decode cJ9_min_7cf53 0 = .ok (.iload_n 0, 1) := by decide +kernel
theorem dJ9_min_7cf53_1 : decode cJ9_min_7cf53 1 = .ok (.iload_n 1, 1) := by decide +kernel
theorem dJ9_min_7cf53_2 : decode cJ9_min_7cf53 2 = .ok (.if_icmp .gt 7, 3) := by decide +kernel
theorem dJ9_min_7cf53_5 : decode cJ9_min_7cf53 5 = .ok (.iload_n 0, 1) := by decide +kernel
theorem dJ9_min_7cf53_6 : decode cJ9_min_7cf53 6 = .ok (.goto 4, 3) := by decide +kernel
theorem dJ9_min_7cf53_9 : decode cJ9_min_7cf53 9 = .ok (.iload_n 1, 1) := by decide +kernel
theorem dJ9_min_7cf53_10 : decode cJ9_min_7cf53 10 = .ok (.ireturn, 1) := by decide +kernel
theorem dJ7_fill_53178_0 : decode cJ7_fill_53178 0 = .ok (.iconst 0, 1) := by decide +kernel
theorem dJ7_fill_53178_1 : decode cJ7_fill_53178 1 = .ok (.istore_n 2, 1) := by decide +kernel
theorem dJ7_fill_53178_2 : decode cJ7_fill_53178 2 = .ok (.aload_n 0, 1) := by decide +kernel
theorem dJ7_fill_53178_3 : decode cJ7_fill_53178 3 = .ok (.arraylength, 1) := by decide +kernel
theorem dJ7_fill_53178_4 : decode cJ7_fill_53178 4 = .ok (.istore_n 3, 1) := by decide +kernel
theorem dJ7_fill_53178_5 : decode cJ7_fill_53178 5 = .ok (.iload_n 2, 1) := by decide +kernel
theorem dJ7_fill_53178_6 : decode cJ7_fill_53178 6 = .ok (.iload_n 3, 1) := by decide +kernel
theorem dJ7_fill_53178_7 : decode cJ7_fill_53178 7 = .ok (.if_icmp .ge 13, 3) := by decide +kernel
theorem dJ7_fill_53178_10 : decode cJ7_fill_53178 10 = .ok (.aload_n 0, 1) := by decide +kernel
theorem dJ7_fill_53178_11 : decode cJ7_fill_53178 11 = .ok (.iload_n 2, 1) := by decide +kernel
theorem dJ7_fill_53178_12 : decode cJ7_fill_53178 12 = .ok (.iload_n 1, 1) := by decide +kernel
theorem dJ7_fill_53178_13 : decode cJ7_fill_53178 13 = .ok (.iastore, 1) := by decide +kernel
theorem dJ7_fill_53178_14 : decode cJ7_fill_53178 14 = .ok (.iinc 2 1, 3) := by decide +kernel
theorem dJ7_fill_53178_17 : decode cJ7_fill_53178 17 = .ok (.goto (-12), 3) := by decide +kernel
theorem dJ7_fill_53178_20 : decode cJ7_fill_53178 20 = .ok (.return_, 1) := by decide +kernel
theorem dL_law_0 : decode cL_law 0 = .ok (.new 7, 3) := by decide +kernel
theorem dL_law_3 : decode cL_law 3 = .ok (.dup, 1) := by decide +kernel
theorem dL_law_4 : decode cL_law 4 = .ok (.invokespecial 9, 3) := by decide +kernel
theorem dL_law_7 : decode cL_law 7 = .ok (.astore_n 1, 1) := by decide +kernel
theorem dL_law_8 : decode cL_law 8 = .ok (.new 10, 3) := by decide +kernel
theorem dL_law_11 : decode cL_law 11 = .ok (.dup, 1) := by decide +kernel
theorem dL_law_12 : decode cL_law 12 = .ok (.invokespecial 12, 3) := by decide +kernel
theorem dL_law_15 : decode cL_law 15 = .ok (.astore_n 2, 1) := by decide +kernel
theorem dL_law_16 : decode cL_law 16 = .ok (.iconst 0, 1) := by decide +kernel
theorem dL_law_17 : decode cL_law 17 = .ok (.istore_n 3, 1) := by decide +kernel
theorem dL_law_18 : decode cL_law 18 = .ok (.iload_n 3, 1) := by decide +kernel
theorem dL_law_19 : decode cL_law 19 = .ok (.aload_n 0, 1) := by decide +kernel
theorem dL_law_20 : decode cL_law 20 = .ok (.arraylength, 1) := by decide +kernel
theorem dL_law_21 : decode cL_law 21 = .ok (.bipush 6, 2) := by decide +kernel
theorem dL_law_23 : decode cL_law 23 = .ok (.isub, 1) := by decide +kernel
theorem dL_law_24 : decode cL_law 24 = .ok (.if_icmp .gt 784, 3) := by decide +kernel
theorem dL_law_27 : decode cL_law 27 = .ok (.aload_n 0, 1) := by decide +kernel
theorem dL_law_28 : decode cL_law 28 = .ok (.iload_n 3, 1) := by decide +kernel
theorem dL_law_29 : decode cL_law 29 = .ok (.iaload, 1) := by decide +kernel
theorem dL_law_30 : decode cL_law 30 = .ok (.bipush 31, 2) := by decide +kernel
theorem dL_law_32 : decode cL_law 32 = .ok (.iand, 1) := by decide +kernel
theorem dL_law_33 : decode cL_law 33 = .ok (.tableswitch 769 0 21 #[103, 136, 169, 202, 225, 248, 311, 334, 377, 420, 463, 486, 509, 532, 555, 568, 591, 624, 657, 690, 713, 746], 103) := by decide +kernel
theorem dL_law_136 : decode cL_law 136 = .ok (.aload_n 1, 1) := by decide +kernel
theorem dL_law_137 : decode cL_law 137 = .ok (.aload_n 0, 1) := by decide +kernel
theorem dL_law_138 : decode cL_law 138 = .ok (.iload_n 3, 1) := by decide +kernel
theorem dL_law_139 : decode cL_law 139 = .ok (.iconst 1, 1) := by decide +kernel
theorem dL_law_140 : decode cL_law 140 = .ok (.iadd, 1) := by decide +kernel
theorem dL_law_141 : decode cL_law 141 = .ok (.iaload, 1) := by decide +kernel
theorem dL_law_142 : decode cL_law 142 = .ok (.aload_n 0, 1) := by decide +kernel
theorem dL_law_143 : decode cL_law 143 = .ok (.iload_n 3, 1) := by decide +kernel
theorem dL_law_144 : decode cL_law 144 = .ok (.iconst 2, 1) := by decide +kernel
theorem dL_law_145 : decode cL_law 145 = .ok (.iadd, 1) := by decide +kernel
theorem dL_law_146 : decode cL_law 146 = .ok (.iaload, 1) := by decide +kernel
theorem dL_law_147 : decode cL_law 147 = .ok (.invokevirtual 13, 3) := by decide +kernel
theorem dL_law_150 : decode cL_law 150 = .ok (.aload_n 2, 1) := by decide +kernel
theorem dL_law_151 : decode cL_law 151 = .ok (.aload_n 0, 1) := by decide +kernel
theorem dL_law_152 : decode cL_law 152 = .ok (.iload_n 3, 1) := by decide +kernel
theorem dL_law_153 : decode cL_law 153 = .ok (.iconst 1, 1) := by decide +kernel
theorem dL_law_154 : decode cL_law 154 = .ok (.iadd, 1) := by decide +kernel
theorem dL_law_155 : decode cL_law 155 = .ok (.iaload, 1) := by decide +kernel
theorem dL_law_156 : decode cL_law 156 = .ok (.aload_n 0, 1) := by decide +kernel
theorem dL_law_157 : decode cL_law 157 = .ok (.iload_n 3, 1) := by decide +kernel
theorem dL_law_158 : decode cL_law 158 = .ok (.iconst 2, 1) := by decide +kernel
theorem dL_law_159 : decode cL_law 159 = .ok (.iadd, 1) := by decide +kernel
theorem dL_law_160 : decode cL_law 160 = .ok (.iaload, 1) := by decide +kernel
theorem dL_law_161 : decode cL_law 161 = .ok (.invokevirtual 17, 3) := by decide +kernel
theorem dL_law_164 : decode cL_law 164 = .ok (.if_icmp .eq 638, 3) := by decide +kernel
theorem dL_law_167 : decode cL_law 167 = .ok (.iconst 0, 1) := by decide +kernel
theorem dL_law_168 : decode cL_law 168 = .ok (.ireturn, 1) := by decide +kernel
theorem dL_law_169 : decode cL_law 169 = .ok (.aload_n 1, 1) := by decide +kernel
theorem dL_law_170 : decode cL_law 170 = .ok (.aload_n 0, 1) := by decide +kernel
theorem dL_law_171 : decode cL_law 171 = .ok (.iload_n 3, 1) := by decide +kernel
theorem dL_law_172 : decode cL_law 172 = .ok (.iconst 1, 1) := by decide +kernel
theorem dL_law_173 : decode cL_law 173 = .ok (.iadd, 1) := by decide +kernel
theorem dL_law_174 : decode cL_law 174 = .ok (.iaload, 1) := by decide +kernel
theorem dL_law_175 : decode cL_law 175 = .ok (.aload_n 0, 1) := by decide +kernel
theorem dL_law_176 : decode cL_law 176 = .ok (.iload_n 3, 1) := by decide +kernel
theorem dL_law_177 : decode cL_law 177 = .ok (.iconst 2, 1) := by decide +kernel
theorem dL_law_178 : decode cL_law 178 = .ok (.iadd, 1) := by decide +kernel
theorem dL_law_179 : decode cL_law 179 = .ok (.iaload, 1) := by decide +kernel
theorem dL_law_180 : decode cL_law 180 = .ok (.invokevirtual 18, 3) := by decide +kernel
theorem dL_law_183 : decode cL_law 183 = .ok (.aload_n 2, 1) := by decide +kernel
theorem dL_law_184 : decode cL_law 184 = .ok (.aload_n 0, 1) := by decide +kernel
theorem dL_law_185 : decode cL_law 185 = .ok (.iload_n 3, 1) := by decide +kernel
theorem dL_law_186 : decode cL_law 186 = .ok (.iconst 1, 1) := by decide +kernel
theorem dL_law_187 : decode cL_law 187 = .ok (.iadd, 1) := by decide +kernel
theorem dL_law_188 : decode cL_law 188 = .ok (.iaload, 1) := by decide +kernel
theorem dL_law_189 : decode cL_law 189 = .ok (.aload_n 0, 1) := by decide +kernel
theorem dL_law_190 : decode cL_law 190 = .ok (.iload_n 3, 1) := by decide +kernel
theorem dL_law_191 : decode cL_law 191 = .ok (.iconst 2, 1) := by decide +kernel
theorem dL_law_192 : decode cL_law 192 = .ok (.iadd, 1) := by decide +kernel
theorem dL_law_193 : decode cL_law 193 = .ok (.iaload, 1) := by decide +kernel
theorem dL_law_194 : decode cL_law 194 = .ok (.invokevirtual 21, 3) := by decide +kernel
theorem dL_law_197 : decode cL_law 197 = .ok (.if_icmp .eq 605, 3) := by decide +kernel
theorem dL_law_200 : decode cL_law 200 = .ok (.iconst 0, 1) := by decide +kernel
theorem dL_law_201 : decode cL_law 201 = .ok (.ireturn, 1) := by decide +kernel
theorem dL_law_202 : decode cL_law 202 = .ok (.aload_n 1, 1) := by decide +kernel
theorem dL_law_203 : decode cL_law 203 = .ok (.aload_n 0, 1) := by decide +kernel
theorem dL_law_204 : decode cL_law 204 = .ok (.iload_n 3, 1) := by decide +kernel
theorem dL_law_205 : decode cL_law 205 = .ok (.iconst 1, 1) := by decide +kernel
theorem dL_law_206 : decode cL_law 206 = .ok (.iadd, 1) := by decide +kernel
theorem dL_law_207 : decode cL_law 207 = .ok (.iaload, 1) := by decide +kernel
theorem dL_law_208 : decode cL_law 208 = .ok (.aload_n 0, 1) := by decide +kernel
theorem dL_law_209 : decode cL_law 209 = .ok (.iload_n 3, 1) := by decide +kernel
theorem dL_law_210 : decode cL_law 210 = .ok (.iconst 2, 1) := by decide +kernel
theorem dL_law_211 : decode cL_law 211 = .ok (.iadd, 1) := by decide +kernel
theorem dL_law_212 : decode cL_law 212 = .ok (.iaload, 1) := by decide +kernel
theorem dL_law_213 : decode cL_law 213 = .ok (.invokevirtual 22, 3) := by decide +kernel
theorem dL_law_216 : decode cL_law 216 = .ok (.aload_n 2, 1) := by decide +kernel
theorem dL_law_217 : decode cL_law 217 = .ok (.aload_n 0, 1) := by decide +kernel
theorem dL_law_218 : decode cL_law 218 = .ok (.iload_n 3, 1) := by decide +kernel
theorem dL_law_219 : decode cL_law 219 = .ok (.iconst 1, 1) := by decide +kernel
theorem dL_law_220 : decode cL_law 220 = .ok (.iadd, 1) := by decide +kernel
theorem dL_law_221 : decode cL_law 221 = .ok (.iaload, 1) := by decide +kernel
theorem dL_law_222 : decode cL_law 222 = .ok (.aload_n 0, 1) := by decide +kernel
theorem dL_law_223 : decode cL_law 223 = .ok (.iload_n 3, 1) := by decide +kernel
theorem dL_law_224 : decode cL_law 224 = .ok (.iconst 2, 1) := by decide +kernel
theorem dL_law_225 : decode cL_law 225 = .ok (.iadd, 1) := by decide +kernel
theorem dL_law_226 : decode cL_law 226 = .ok (.iaload, 1) := by decide +kernel
theorem dL_law_227 : decode cL_law 227 = .ok (.invokevirtual 25, 3) := by decide +kernel
theorem dL_law_230 : decode cL_law 230 = .ok (.if_icmp .eq 572, 3) := by decide +kernel
theorem dL_law_233 : decode cL_law 233 = .ok (.iconst 0, 1) := by decide +kernel
theorem dL_law_234 : decode cL_law 234 = .ok (.ireturn, 1) := by decide +kernel
theorem dL_law_235 : decode cL_law 235 = .ok (.aload_n 1, 1) := by decide +kernel
theorem dL_law_236 : decode cL_law 236 = .ok (.aload_n 0, 1) := by decide +kernel
theorem dL_law_237 : decode cL_law 237 = .ok (.iload_n 3, 1) := by decide +kernel
theorem dL_law_238 : decode cL_law 238 = .ok (.iconst 1, 1) := by decide +kernel
theorem dL_law_239 : decode cL_law 239 = .ok (.iadd, 1) := by decide +kernel
theorem dL_law_240 : decode cL_law 240 = .ok (.iaload, 1) := by decide +kernel
theorem dL_law_241 : decode cL_law 241 = .ok (.invokevirtual 26, 3) := by decide +kernel
theorem dL_law_244 : decode cL_law 244 = .ok (.aload_n 2, 1) := by decide +kernel
theorem dL_law_245 : decode cL_law 245 = .ok (.aload_n 0, 1) := by decide +kernel
theorem dL_law_246 : decode cL_law 246 = .ok (.iload_n 3, 1) := by decide +kernel
theorem dL_law_247 : decode cL_law 247 = .ok (.iconst 1, 1) := by decide +kernel
theorem dL_law_248 : decode cL_law 248 = .ok (.iadd, 1) := by decide +kernel
theorem dL_law_249 : decode cL_law 249 = .ok (.iaload, 1) := by decide +kernel
theorem dL_law_250 : decode cL_law 250 = .ok (.invokevirtual 30, 3) := by decide +kernel
theorem dL_law_253 : decode cL_law 253 = .ok (.if_icmp .eq 549, 3) := by decide +kernel
theorem dL_law_256 : decode cL_law 256 = .ok (.iconst 0, 1) := by decide +kernel
theorem dL_law_257 : decode cL_law 257 = .ok (.ireturn, 1) := by decide +kernel
theorem dL_law_258 : decode cL_law 258 = .ok (.aload_n 1, 1) := by decide +kernel
theorem dL_law_259 : decode cL_law 259 = .ok (.aload_n 0, 1) := by decide +kernel
theorem dL_law_260 : decode cL_law 260 = .ok (.iload_n 3, 1) := by decide +kernel
theorem dL_law_261 : decode cL_law 261 = .ok (.iconst 1, 1) := by decide +kernel
theorem dL_law_262 : decode cL_law 262 = .ok (.iadd, 1) := by decide +kernel
theorem dL_law_263 : decode cL_law 263 = .ok (.iaload, 1) := by decide +kernel
theorem dL_law_264 : decode cL_law 264 = .ok (.invokevirtual 31, 3) := by decide +kernel
theorem dL_law_267 : decode cL_law 267 = .ok (.aload_n 2, 1) := by decide +kernel
theorem dL_law_268 : decode cL_law 268 = .ok (.aload_n 0, 1) := by decide +kernel
theorem dL_law_269 : decode cL_law 269 = .ok (.iload_n 3, 1) := by decide +kernel
theorem dL_law_270 : decode cL_law 270 = .ok (.iconst 1, 1) := by decide +kernel
theorem dL_law_271 : decode cL_law 271 = .ok (.iadd, 1) := by decide +kernel
theorem dL_law_272 : decode cL_law 272 = .ok (.iaload, 1) := by decide +kernel
theorem dL_law_273 : decode cL_law 273 = .ok (.invokevirtual 34, 3) := by decide +kernel
theorem dL_law_276 : decode cL_law 276 = .ok (.if_icmp .eq 526, 3) := by decide +kernel
theorem dL_law_279 : decode cL_law 279 = .ok (.iconst 0, 1) := by decide +kernel
theorem dL_law_280 : decode cL_law 280 = .ok (.ireturn, 1) := by decide +kernel
theorem dL_law_281 : decode cL_law 281 = .ok (.aload_n 1, 1) := by decide +kernel
theorem dL_law_282 : decode cL_law 282 = .ok (.aload_n 0, 1) := by decide +kernel
theorem dL_law_283 : decode cL_law 283 = .ok (.iload_n 3, 1) := by decide +kernel
theorem dL_law_284 : decode cL_law 284 = .ok (.iconst 1, 1) := by decide +kernel
theorem dL_law_285 : decode cL_law 285 = .ok (.iadd, 1) := by decide +kernel
theorem dL_law_286 : decode cL_law 286 = .ok (.iaload, 1) := by decide +kernel
theorem dL_law_287 : decode cL_law 287 = .ok (.aload_n 0, 1) := by decide +kernel
theorem dL_law_288 : decode cL_law 288 = .ok (.iload_n 3, 1) := by decide +kernel
theorem dL_law_289 : decode cL_law 289 = .ok (.iconst 2, 1) := by decide +kernel
theorem dL_law_290 : decode cL_law 290 = .ok (.iadd, 1) := by decide +kernel
theorem dL_law_291 : decode cL_law 291 = .ok (.iaload, 1) := by decide +kernel
theorem dL_law_292 : decode cL_law 292 = .ok (.aload_n 0, 1) := by decide +kernel
theorem dL_law_293 : decode cL_law 293 = .ok (.iload_n 3, 1) := by decide +kernel
theorem dL_law_294 : decode cL_law 294 = .ok (.iconst 3, 1) := by decide +kernel
theorem dL_law_295 : decode cL_law 295 = .ok (.iadd, 1) := by decide +kernel
theorem dL_law_296 : decode cL_law 296 = .ok (.iaload, 1) := by decide +kernel
theorem dL_law_297 : decode cL_law 297 = .ok (.aload_n 0, 1) := by decide +kernel
theorem dL_law_298 : decode cL_law 298 = .ok (.iload_n 3, 1) := by decide +kernel
theorem dL_law_299 : decode cL_law 299 = .ok (.iconst 4, 1) := by decide +kernel
theorem dL_law_300 : decode cL_law 300 = .ok (.iadd, 1) := by decide +kernel
theorem dL_law_301 : decode cL_law 301 = .ok (.iaload, 1) := by decide +kernel
theorem dL_law_302 : decode cL_law 302 = .ok (.aload_n 0, 1) := by decide +kernel
theorem dL_law_303 : decode cL_law 303 = .ok (.iload_n 3, 1) := by decide +kernel
theorem dL_law_304 : decode cL_law 304 = .ok (.iconst 5, 1) := by decide +kernel
theorem dL_law_305 : decode cL_law 305 = .ok (.iadd, 1) := by decide +kernel
theorem dL_law_306 : decode cL_law 306 = .ok (.iaload, 1) := by decide +kernel
theorem dL_law_307 : decode cL_law 307 = .ok (.invokevirtual 35, 3) := by decide +kernel
theorem dL_law_310 : decode cL_law 310 = .ok (.aload_n 2, 1) := by decide +kernel
theorem dL_law_311 : decode cL_law 311 = .ok (.aload_n 0, 1) := by decide +kernel
theorem dL_law_312 : decode cL_law 312 = .ok (.iload_n 3, 1) := by decide +kernel
theorem dL_law_313 : decode cL_law 313 = .ok (.iconst 1, 1) := by decide +kernel
theorem dL_law_314 : decode cL_law 314 = .ok (.iadd, 1) := by decide +kernel
theorem dL_law_315 : decode cL_law 315 = .ok (.iaload, 1) := by decide +kernel
theorem dL_law_316 : decode cL_law 316 = .ok (.aload_n 0, 1) := by decide +kernel
theorem dL_law_317 : decode cL_law 317 = .ok (.iload_n 3, 1) := by decide +kernel
theorem dL_law_318 : decode cL_law 318 = .ok (.iconst 2, 1) := by decide +kernel
theorem dL_law_319 : decode cL_law 319 = .ok (.iadd, 1) := by decide +kernel
theorem dL_law_320 : decode cL_law 320 = .ok (.iaload, 1) := by decide +kernel
theorem dL_law_321 : decode cL_law 321 = .ok (.aload_n 0, 1) := by decide +kernel
theorem dL_law_322 : decode cL_law 322 = .ok (.iload_n 3, 1) := by decide +kernel
theorem dL_law_323 : decode cL_law 323 = .ok (.iconst 3, 1) := by decide +kernel
theorem dL_law_324 : decode cL_law 324 = .ok (.iadd, 1) := by decide +kernel
theorem dL_law_325 : decode cL_law 325 = .ok (.iaload, 1) := by decide +kernel
theorem dL_law_326 : decode cL_law 326 = .ok (.aload_n 0, 1) := by decide +kernel
theorem dL_law_327 : decode cL_law 327 = .ok (.iload_n 3, 1) := by decide +kernel
theorem dL_law_328 : decode cL_law 328 = .ok (.iconst 4, 1) := by decide +kernel
theorem dL_law_329 : decode cL_law 329 = .ok (.iadd, 1) := by decide +kernel
theorem dL_law_330 : decode cL_law 330 = .ok (.iaload, 1) := by decide +kernel
theorem dL_law_331 : decode cL_law 331 = .ok (.aload_n 0, 1) := by decide +kernel
theorem dL_law_332 : decode cL_law 332 = .ok (.iload_n 3, 1) := by decide +kernel
theorem dL_law_333 : decode cL_law 333 = .ok (.iconst 5, 1) := by decide +kernel
theorem dL_law_334 : decode cL_law 334 = .ok (.iadd, 1) := by decide +kernel
theorem dL_law_335 : decode cL_law 335 = .ok (.iaload, 1) := by decide +kernel
theorem dL_law_336 : decode cL_law 336 = .ok (.invokevirtual 39, 3) := by decide +kernel
theorem dL_law_339 : decode cL_law 339 = .ok (.if_icmp .eq 463, 3) := by decide +kernel
theorem dL_law_342 : decode cL_law 342 = .ok (.iconst 0, 1) := by decide +kernel
theorem dL_law_343 : decode cL_law 343 = .ok (.ireturn, 1) := by decide +kernel
theorem dL_law_344 : decode cL_law 344 = .ok (.aload_n 1, 1) := by decide +kernel
theorem dL_law_345 : decode cL_law 345 = .ok (.aload_n 0, 1) := by decide +kernel
theorem dL_law_346 : decode cL_law 346 = .ok (.iload_n 3, 1) := by decide +kernel
theorem dL_law_347 : decode cL_law 347 = .ok (.iconst 1, 1) := by decide +kernel
theorem dL_law_348 : decode cL_law 348 = .ok (.iadd, 1) := by decide +kernel
theorem dL_law_349 : decode cL_law 349 = .ok (.iaload, 1) := by decide +kernel
theorem dL_law_350 : decode cL_law 350 = .ok (.invokevirtual 40, 3) := by decide +kernel
theorem dL_law_353 : decode cL_law 353 = .ok (.aload_n 2, 1) := by decide +kernel
theorem dL_law_354 : decode cL_law 354 = .ok (.aload_n 0, 1) := by decide +kernel
theorem dL_law_355 : decode cL_law 355 = .ok (.iload_n 3, 1) := by decide +kernel
theorem dL_law_356 : decode cL_law 356 = .ok (.iconst 1, 1) := by decide +kernel
theorem dL_law_357 : decode cL_law 357 = .ok (.iadd, 1) := by decide +kernel
theorem dL_law_358 : decode cL_law 358 = .ok (.iaload, 1) := by decide +kernel
theorem dL_law_359 : decode cL_law 359 = .ok (.invokevirtual 43, 3) := by decide +kernel
theorem dL_law_362 : decode cL_law 362 = .ok (.if_icmp .eq 440, 3) := by decide +kernel
theorem dL_law_365 : decode cL_law 365 = .ok (.iconst 0, 1) := by decide +kernel
theorem dL_law_366 : decode cL_law 366 = .ok (.ireturn, 1) := by decide +kernel
theorem dL_law_367 : decode cL_law 367 = .ok (.aload_n 1, 1) := by decide +kernel
theorem dL_law_368 : decode cL_law 368 = .ok (.aload_n 0, 1) := by decide +kernel
theorem dL_law_369 : decode cL_law 369 = .ok (.iload_n 3, 1) := by decide +kernel
theorem dL_law_370 : decode cL_law 370 = .ok (.iconst 1, 1) := by decide +kernel
theorem dL_law_371 : decode cL_law 371 = .ok (.iadd, 1) := by decide +kernel
theorem dL_law_372 : decode cL_law 372 = .ok (.iaload, 1) := by decide +kernel
theorem dL_law_373 : decode cL_law 373 = .ok (.aload_n 0, 1) := by decide +kernel
theorem dL_law_374 : decode cL_law 374 = .ok (.iload_n 3, 1) := by decide +kernel
theorem dL_law_375 : decode cL_law 375 = .ok (.iconst 2, 1) := by decide +kernel
theorem dL_law_376 : decode cL_law 376 = .ok (.iadd, 1) := by decide +kernel
theorem dL_law_377 : decode cL_law 377 = .ok (.iaload, 1) := by decide +kernel
theorem dL_law_378 : decode cL_law 378 = .ok (.aload_n 0, 1) := by decide +kernel
theorem dL_law_379 : decode cL_law 379 = .ok (.iload_n 3, 1) := by decide +kernel
theorem dL_law_380 : decode cL_law 380 = .ok (.iconst 3, 1) := by decide +kernel
theorem dL_law_381 : decode cL_law 381 = .ok (.iadd, 1) := by decide +kernel
theorem dL_law_382 : decode cL_law 382 = .ok (.iaload, 1) := by decide +kernel
theorem dL_law_383 : decode cL_law 383 = .ok (.invokevirtual 44, 3) := by decide +kernel
theorem dL_law_386 : decode cL_law 386 = .ok (.aload_n 2, 1) := by decide +kernel
theorem dL_law_387 : decode cL_law 387 = .ok (.aload_n 0, 1) := by decide +kernel
theorem dL_law_388 : decode cL_law 388 = .ok (.iload_n 3, 1) := by decide +kernel
theorem dL_law_389 : decode cL_law 389 = .ok (.iconst 1, 1) := by decide +kernel
theorem dL_law_390 : decode cL_law 390 = .ok (.iadd, 1) := by decide +kernel
theorem dL_law_391 : decode cL_law 391 = .ok (.iaload, 1) := by decide +kernel
theorem dL_law_392 : decode cL_law 392 = .ok (.aload_n 0, 1) := by decide +kernel
theorem dL_law_393 : decode cL_law 393 = .ok (.iload_n 3, 1) := by decide +kernel
theorem dL_law_394 : decode cL_law 394 = .ok (.iconst 2, 1) := by decide +kernel
theorem dL_law_395 : decode cL_law 395 = .ok (.iadd, 1) := by decide +kernel
theorem dL_law_396 : decode cL_law 396 = .ok (.iaload, 1) := by decide +kernel
theorem dL_law_397 : decode cL_law 397 = .ok (.aload_n 0, 1) := by decide +kernel
theorem dL_law_398 : decode cL_law 398 = .ok (.iload_n 3, 1) := by decide +kernel
theorem dL_law_399 : decode cL_law 399 = .ok (.iconst 3, 1) := by decide +kernel
theorem dL_law_400 : decode cL_law 400 = .ok (.iadd, 1) := by decide +kernel
theorem dL_law_401 : decode cL_law 401 = .ok (.iaload, 1) := by decide +kernel
theorem dL_law_402 : decode cL_law 402 = .ok (.invokevirtual 48, 3) := by decide +kernel
theorem dL_law_405 : decode cL_law 405 = .ok (.if_icmp .eq 397, 3) := by decide +kernel
theorem dL_law_408 : decode cL_law 408 = .ok (.iconst 0, 1) := by decide +kernel
theorem dL_law_409 : decode cL_law 409 = .ok (.ireturn, 1) := by decide +kernel
theorem dL_law_410 : decode cL_law 410 = .ok (.aload_n 1, 1) := by decide +kernel
theorem dL_law_411 : decode cL_law 411 = .ok (.aload_n 0, 1) := by decide +kernel
theorem dL_law_412 : decode cL_law 412 = .ok (.iload_n 3, 1) := by decide +kernel
theorem dL_law_413 : decode cL_law 413 = .ok (.iconst 1, 1) := by decide +kernel
theorem dL_law_414 : decode cL_law 414 = .ok (.iadd, 1) := by decide +kernel
theorem dL_law_415 : decode cL_law 415 = .ok (.iaload, 1) := by decide +kernel
theorem dL_law_416 : decode cL_law 416 = .ok (.aload_n 0, 1) := by decide +kernel
theorem dL_law_417 : decode cL_law 417 = .ok (.iload_n 3, 1) := by decide +kernel
theorem dL_law_418 : decode cL_law 418 = .ok (.iconst 2, 1) := by decide +kernel
theorem dL_law_419 : decode cL_law 419 = .ok (.iadd, 1) := by decide +kernel
theorem dL_law_420 : decode cL_law 420 = .ok (.iaload, 1) := by decide +kernel
theorem dL_law_421 : decode cL_law 421 = .ok (.aload_n 0, 1) := by decide +kernel
theorem dL_law_422 : decode cL_law 422 = .ok (.iload_n 3, 1) := by decide +kernel
theorem dL_law_423 : decode cL_law 423 = .ok (.iconst 3, 1) := by decide +kernel
theorem dL_law_424 : decode cL_law 424 = .ok (.iadd, 1) := by decide +kernel
theorem dL_law_425 : decode cL_law 425 = .ok (.iaload, 1) := by decide +kernel
theorem dL_law_426 : decode cL_law 426 = .ok (.invokevirtual 49, 3) := by decide +kernel
theorem dL_law_429 : decode cL_law 429 = .ok (.aload_n 2, 1) := by decide +kernel
theorem dL_law_430 : decode cL_law 430 = .ok (.aload_n 0, 1) := by decide +kernel
theorem dL_law_431 : decode cL_law 431 = .ok (.iload_n 3, 1) := by decide +kernel
theorem dL_law_432 : decode cL_law 432 = .ok (.iconst 1, 1) := by decide +kernel
theorem dL_law_433 : decode cL_law 433 = .ok (.iadd, 1) := by decide +kernel
theorem dL_law_434 : decode cL_law 434 = .ok (.iaload, 1) := by decide +kernel
theorem dL_law_435 : decode cL_law 435 = .ok (.aload_n 0, 1) := by decide +kernel
theorem dL_law_436 : decode cL_law 436 = .ok (.iload_n 3, 1) := by decide +kernel
theorem dL_law_437 : decode cL_law 437 = .ok (.iconst 2, 1) := by decide +kernel
theorem dL_law_438 : decode cL_law 438 = .ok (.iadd, 1) := by decide +kernel
theorem dL_law_439 : decode cL_law 439 = .ok (.iaload, 1) := by decide +kernel
theorem dL_law_440 : decode cL_law 440 = .ok (.aload_n 0, 1) := by decide +kernel
theorem dL_law_441 : decode cL_law 441 = .ok (.iload_n 3, 1) := by decide +kernel
theorem dL_law_442 : decode cL_law 442 = .ok (.iconst 3, 1) := by decide +kernel
theorem dL_law_443 : decode cL_law 443 = .ok (.iadd, 1) := by decide +kernel
theorem dL_law_444 : decode cL_law 444 = .ok (.iaload, 1) := by decide +kernel
theorem dL_law_445 : decode cL_law 445 = .ok (.invokevirtual 52, 3) := by decide +kernel
theorem dL_law_448 : decode cL_law 448 = .ok (.if_icmp .eq 354, 3) := by decide +kernel
theorem dL_law_451 : decode cL_law 451 = .ok (.iconst 0, 1) := by decide +kernel
theorem dL_law_452 : decode cL_law 452 = .ok (.ireturn, 1) := by decide +kernel
theorem dL_law_453 : decode cL_law 453 = .ok (.aload_n 1, 1) := by decide +kernel
theorem dL_law_454 : decode cL_law 454 = .ok (.aload_n 0, 1) := by decide +kernel
theorem dL_law_455 : decode cL_law 455 = .ok (.iload_n 3, 1) := by decide +kernel
theorem dL_law_456 : decode cL_law 456 = .ok (.iconst 1, 1) := by decide +kernel
theorem dL_law_457 : decode cL_law 457 = .ok (.iadd, 1) := by decide +kernel
theorem dL_law_458 : decode cL_law 458 = .ok (.iaload, 1) := by decide +kernel
theorem dL_law_459 : decode cL_law 459 = .ok (.aload_n 0, 1) := by decide +kernel
theorem dL_law_460 : decode cL_law 460 = .ok (.iload_n 3, 1) := by decide +kernel
theorem dL_law_461 : decode cL_law 461 = .ok (.iconst 2, 1) := by decide +kernel
theorem dL_law_462 : decode cL_law 462 = .ok (.iadd, 1) := by decide +kernel
theorem dL_law_463 : decode cL_law 463 = .ok (.iaload, 1) := by decide +kernel
theorem dL_law_464 : decode cL_law 464 = .ok (.aload_n 0, 1) := by decide +kernel
theorem dL_law_465 : decode cL_law 465 = .ok (.iload_n 3, 1) := by decide +kernel
theorem dL_law_466 : decode cL_law 466 = .ok (.iconst 3, 1) := by decide +kernel
theorem dL_law_467 : decode cL_law 467 = .ok (.iadd, 1) := by decide +kernel
theorem dL_law_468 : decode cL_law 468 = .ok (.iaload, 1) := by decide +kernel
theorem dL_law_469 : decode cL_law 469 = .ok (.invokevirtual 53, 3) := by decide +kernel
theorem dL_law_472 : decode cL_law 472 = .ok (.aload_n 2, 1) := by decide +kernel
theorem dL_law_473 : decode cL_law 473 = .ok (.aload_n 0, 1) := by decide +kernel
theorem dL_law_474 : decode cL_law 474 = .ok (.iload_n 3, 1) := by decide +kernel
theorem dL_law_475 : decode cL_law 475 = .ok (.iconst 1, 1) := by decide +kernel
theorem dL_law_476 : decode cL_law 476 = .ok (.iadd, 1) := by decide +kernel
theorem dL_law_477 : decode cL_law 477 = .ok (.iaload, 1) := by decide +kernel
theorem dL_law_478 : decode cL_law 478 = .ok (.aload_n 0, 1) := by decide +kernel
theorem dL_law_479 : decode cL_law 479 = .ok (.iload_n 3, 1) := by decide +kernel
theorem dL_law_480 : decode cL_law 480 = .ok (.iconst 2, 1) := by decide +kernel
theorem dL_law_481 : decode cL_law 481 = .ok (.iadd, 1) := by decide +kernel
theorem dL_law_482 : decode cL_law 482 = .ok (.iaload, 1) := by decide +kernel
theorem dL_law_483 : decode cL_law 483 = .ok (.aload_n 0, 1) := by decide +kernel
theorem dL_law_484 : decode cL_law 484 = .ok (.iload_n 3, 1) := by decide +kernel
theorem dL_law_485 : decode cL_law 485 = .ok (.iconst 3, 1) := by decide +kernel
theorem dL_law_486 : decode cL_law 486 = .ok (.iadd, 1) := by decide +kernel
theorem dL_law_487 : decode cL_law 487 = .ok (.iaload, 1) := by decide +kernel
theorem dL_law_488 : decode cL_law 488 = .ok (.invokevirtual 56, 3) := by decide +kernel
theorem dL_law_491 : decode cL_law 491 = .ok (.if_icmp .eq 311, 3) := by decide +kernel
theorem dL_law_494 : decode cL_law 494 = .ok (.iconst 0, 1) := by decide +kernel
theorem dL_law_495 : decode cL_law 495 = .ok (.ireturn, 1) := by decide +kernel
theorem dL_law_496 : decode cL_law 496 = .ok (.aload_n 1, 1) := by decide +kernel
theorem dL_law_497 : decode cL_law 497 = .ok (.aload_n 0, 1) := by decide +kernel
theorem dL_law_498 : decode cL_law 498 = .ok (.iload_n 3, 1) := by decide +kernel
theorem dL_law_499 : decode cL_law 499 = .ok (.iconst 1, 1) := by decide +kernel
theorem dL_law_500 : decode cL_law 500 = .ok (.iadd, 1) := by decide +kernel
theorem dL_law_501 : decode cL_law 501 = .ok (.iaload, 1) := by decide +kernel
theorem dL_law_502 : decode cL_law 502 = .ok (.invokevirtual 57, 3) := by decide +kernel
theorem dL_law_505 : decode cL_law 505 = .ok (.aload_n 2, 1) := by decide +kernel
theorem dL_law_506 : decode cL_law 506 = .ok (.aload_n 0, 1) := by decide +kernel
theorem dL_law_507 : decode cL_law 507 = .ok (.iload_n 3, 1) := by decide +kernel
theorem dL_law_508 : decode cL_law 508 = .ok (.iconst 1, 1) := by decide +kernel
theorem dL_law_509 : decode cL_law 509 = .ok (.iadd, 1) := by decide +kernel
theorem dL_law_510 : decode cL_law 510 = .ok (.iaload, 1) := by decide +kernel
theorem dL_law_511 : decode cL_law 511 = .ok (.invokevirtual 60, 3) := by decide +kernel
theorem dL_law_514 : decode cL_law 514 = .ok (.if_icmp .eq 288, 3) := by decide +kernel
theorem dL_law_517 : decode cL_law 517 = .ok (.iconst 0, 1) := by decide +kernel
theorem dL_law_518 : decode cL_law 518 = .ok (.ireturn, 1) := by decide +kernel
theorem dL_law_519 : decode cL_law 519 = .ok (.aload_n 1, 1) := by decide +kernel
theorem dL_law_520 : decode cL_law 520 = .ok (.aload_n 0, 1) := by decide +kernel
theorem dL_law_521 : decode cL_law 521 = .ok (.iload_n 3, 1) := by decide +kernel
theorem dL_law_522 : decode cL_law 522 = .ok (.iconst 1, 1) := by decide +kernel
theorem dL_law_523 : decode cL_law 523 = .ok (.iadd, 1) := by decide +kernel
theorem dL_law_524 : decode cL_law 524 = .ok (.iaload, 1) := by decide +kernel
theorem dL_law_525 : decode cL_law 525 = .ok (.invokevirtual 61, 3) := by decide +kernel
theorem dL_law_528 : decode cL_law 528 = .ok (.aload_n 2, 1) := by decide +kernel
theorem dL_law_529 : decode cL_law 529 = .ok (.aload_n 0, 1) := by decide +kernel
theorem dL_law_530 : decode cL_law 530 = .ok (.iload_n 3, 1) := by decide +kernel
theorem dL_law_531 : decode cL_law 531 = .ok (.iconst 1, 1) := by decide +kernel
theorem dL_law_532 : decode cL_law 532 = .ok (.iadd, 1) := by decide +kernel
theorem dL_law_533 : decode cL_law 533 = .ok (.iaload, 1) := by decide +kernel
theorem dL_law_534 : decode cL_law 534 = .ok (.invokevirtual 64, 3) := by decide +kernel
theorem dL_law_537 : decode cL_law 537 = .ok (.if_icmp .eq 265, 3) := by decide +kernel
theorem dL_law_540 : decode cL_law 540 = .ok (.iconst 0, 1) := by decide +kernel
theorem dL_law_541 : decode cL_law 541 = .ok (.ireturn, 1) := by decide +kernel
theorem dL_law_542 : decode cL_law 542 = .ok (.aload_n 1, 1) := by decide +kernel
theorem dL_law_543 : decode cL_law 543 = .ok (.aload_n 0, 1) := by decide +kernel
theorem dL_law_544 : decode cL_law 544 = .ok (.iload_n 3, 1) := by decide +kernel
theorem dL_law_545 : decode cL_law 545 = .ok (.iconst 1, 1) := by decide +kernel
theorem dL_law_546 : decode cL_law 546 = .ok (.iadd, 1) := by decide +kernel
theorem dL_law_547 : decode cL_law 547 = .ok (.iaload, 1) := by decide +kernel
theorem dL_law_548 : decode cL_law 548 = .ok (.invokevirtual 65, 3) := by decide +kernel
theorem dL_law_551 : decode cL_law 551 = .ok (.aload_n 2, 1) := by decide +kernel
theorem dL_law_552 : decode cL_law 552 = .ok (.aload_n 0, 1) := by decide +kernel
theorem dL_law_553 : decode cL_law 553 = .ok (.iload_n 3, 1) := by decide +kernel
theorem dL_law_554 : decode cL_law 554 = .ok (.iconst 1, 1) := by decide +kernel
theorem dL_law_555 : decode cL_law 555 = .ok (.iadd, 1) := by decide +kernel
theorem dL_law_556 : decode cL_law 556 = .ok (.iaload, 1) := by decide +kernel
theorem dL_law_557 : decode cL_law 557 = .ok (.invokevirtual 68, 3) := by decide +kernel
theorem dL_law_560 : decode cL_law 560 = .ok (.if_icmp .eq 242, 3) := by decide +kernel
theorem dL_law_563 : decode cL_law 563 = .ok (.iconst 0, 1) := by decide +kernel
theorem dL_law_564 : decode cL_law 564 = .ok (.ireturn, 1) := by decide +kernel
theorem dL_law_565 : decode cL_law 565 = .ok (.aload_n 1, 1) := by decide +kernel
theorem dL_law_566 : decode cL_law 566 = .ok (.aload_n 0, 1) := by decide +kernel
theorem dL_law_567 : decode cL_law 567 = .ok (.iload_n 3, 1) := by decide +kernel
theorem dL_law_568 : decode cL_law 568 = .ok (.iconst 1, 1) := by decide +kernel
theorem dL_law_569 : decode cL_law 569 = .ok (.iadd, 1) := by decide +kernel
theorem dL_law_570 : decode cL_law 570 = .ok (.iaload, 1) := by decide +kernel
theorem dL_law_571 : decode cL_law 571 = .ok (.invokevirtual 69, 3) := by decide +kernel
theorem dL_law_574 : decode cL_law 574 = .ok (.aload_n 2, 1) := by decide +kernel
theorem dL_law_575 : decode cL_law 575 = .ok (.aload_n 0, 1) := by decide +kernel
theorem dL_law_576 : decode cL_law 576 = .ok (.iload_n 3, 1) := by decide +kernel
theorem dL_law_577 : decode cL_law 577 = .ok (.iconst 1, 1) := by decide +kernel
theorem dL_law_578 : decode cL_law 578 = .ok (.iadd, 1) := by decide +kernel
theorem dL_law_579 : decode cL_law 579 = .ok (.iaload, 1) := by decide +kernel
theorem dL_law_580 : decode cL_law 580 = .ok (.invokevirtual 72, 3) := by decide +kernel
theorem dL_law_583 : decode cL_law 583 = .ok (.if_icmp .eq 219, 3) := by decide +kernel
theorem dL_law_586 : decode cL_law 586 = .ok (.iconst 0, 1) := by decide +kernel
theorem dL_law_587 : decode cL_law 587 = .ok (.ireturn, 1) := by decide +kernel
theorem dL_law_588 : decode cL_law 588 = .ok (.aload_n 1, 1) := by decide +kernel
theorem dL_law_589 : decode cL_law 589 = .ok (.invokevirtual 73, 3) := by decide +kernel
theorem dL_law_592 : decode cL_law 592 = .ok (.aload_n 2, 1) := by decide +kernel
theorem dL_law_593 : decode cL_law 593 = .ok (.invokevirtual 77, 3) := by decide +kernel
theorem dL_law_596 : decode cL_law 596 = .ok (.if_icmp .eq 206, 3) := by decide +kernel
theorem dL_law_599 : decode cL_law 599 = .ok (.iconst 0, 1) := by decide +kernel
theorem dL_law_600 : decode cL_law 600 = .ok (.ireturn, 1) := by decide +kernel
theorem dL_law_601 : decode cL_law 601 = .ok (.aload_n 1, 1) := by decide +kernel
theorem dL_law_602 : decode cL_law 602 = .ok (.aload_n 0, 1) := by decide +kernel
theorem dL_law_603 : decode cL_law 603 = .ok (.iload_n 3, 1) := by decide +kernel
theorem dL_law_604 : decode cL_law 604 = .ok (.iconst 1, 1) := by decide +kernel
theorem dL_law_605 : decode cL_law 605 = .ok (.iadd, 1) := by decide +kernel
theorem dL_law_606 : decode cL_law 606 = .ok (.iaload, 1) := by decide +kernel
theorem dL_law_607 : decode cL_law 607 = .ok (.invokevirtual 78, 3) := by decide +kernel
theorem dL_law_610 : decode cL_law 610 = .ok (.aload_n 2, 1) := by decide +kernel
theorem dL_law_611 : decode cL_law 611 = .ok (.aload_n 0, 1) := by decide +kernel
theorem dL_law_612 : decode cL_law 612 = .ok (.iload_n 3, 1) := by decide +kernel
theorem dL_law_613 : decode cL_law 613 = .ok (.iconst 1, 1) := by decide +kernel
theorem dL_law_614 : decode cL_law 614 = .ok (.iadd, 1) := by decide +kernel
theorem dL_law_615 : decode cL_law 615 = .ok (.iaload, 1) := by decide +kernel
theorem dL_law_616 : decode cL_law 616 = .ok (.invokevirtual 81, 3) := by decide +kernel
theorem dL_law_619 : decode cL_law 619 = .ok (.if_icmp .eq 183, 3) := by decide +kernel
theorem dL_law_622 : decode cL_law 622 = .ok (.iconst 0, 1) := by decide +kernel
theorem dL_law_623 : decode cL_law 623 = .ok (.ireturn, 1) := by decide +kernel
theorem dL_law_624 : decode cL_law 624 = .ok (.aload_n 1, 1) := by decide +kernel
theorem dL_law_625 : decode cL_law 625 = .ok (.aload_n 0, 1) := by decide +kernel
theorem dL_law_626 : decode cL_law 626 = .ok (.iload_n 3, 1) := by decide +kernel
theorem dL_law_627 : decode cL_law 627 = .ok (.iconst 1, 1) := by decide +kernel
theorem dL_law_628 : decode cL_law 628 = .ok (.iadd, 1) := by decide +kernel
theorem dL_law_629 : decode cL_law 629 = .ok (.iaload, 1) := by decide +kernel
theorem dL_law_630 : decode cL_law 630 = .ok (.aload_n 0, 1) := by decide +kernel
theorem dL_law_631 : decode cL_law 631 = .ok (.iload_n 3, 1) := by decide +kernel
theorem dL_law_632 : decode cL_law 632 = .ok (.iconst 2, 1) := by decide +kernel
theorem dL_law_633 : decode cL_law 633 = .ok (.iadd, 1) := by decide +kernel
theorem dL_law_634 : decode cL_law 634 = .ok (.iaload, 1) := by decide +kernel
theorem dL_law_635 : decode cL_law 635 = .ok (.invokevirtual 82, 3) := by decide +kernel
theorem dL_law_638 : decode cL_law 638 = .ok (.aload_n 2, 1) := by decide +kernel
theorem dL_law_639 : decode cL_law 639 = .ok (.aload_n 0, 1) := by decide +kernel
theorem dL_law_640 : decode cL_law 640 = .ok (.iload_n 3, 1) := by decide +kernel
theorem dL_law_641 : decode cL_law 641 = .ok (.iconst 1, 1) := by decide +kernel
theorem dL_law_642 : decode cL_law 642 = .ok (.iadd, 1) := by decide +kernel
theorem dL_law_643 : decode cL_law 643 = .ok (.iaload, 1) := by decide +kernel
theorem dL_law_644 : decode cL_law 644 = .ok (.aload_n 0, 1) := by decide +kernel
theorem dL_law_645 : decode cL_law 645 = .ok (.iload_n 3, 1) := by decide +kernel
theorem dL_law_646 : decode cL_law 646 = .ok (.iconst 2, 1) := by decide +kernel
theorem dL_law_647 : decode cL_law 647 = .ok (.iadd, 1) := by decide +kernel
theorem dL_law_648 : decode cL_law 648 = .ok (.iaload, 1) := by decide +kernel
theorem dL_law_649 : decode cL_law 649 = .ok (.invokevirtual 85, 3) := by decide +kernel
theorem dL_law_652 : decode cL_law 652 = .ok (.if_icmp .eq 150, 3) := by decide +kernel
theorem dL_law_655 : decode cL_law 655 = .ok (.iconst 0, 1) := by decide +kernel
theorem dL_law_656 : decode cL_law 656 = .ok (.ireturn, 1) := by decide +kernel
theorem dL_law_657 : decode cL_law 657 = .ok (.aload_n 1, 1) := by decide +kernel
theorem dL_law_658 : decode cL_law 658 = .ok (.aload_n 0, 1) := by decide +kernel
theorem dL_law_659 : decode cL_law 659 = .ok (.iload_n 3, 1) := by decide +kernel
theorem dL_law_660 : decode cL_law 660 = .ok (.iconst 1, 1) := by decide +kernel
theorem dL_law_661 : decode cL_law 661 = .ok (.iadd, 1) := by decide +kernel
theorem dL_law_662 : decode cL_law 662 = .ok (.iaload, 1) := by decide +kernel
theorem dL_law_663 : decode cL_law 663 = .ok (.aload_n 0, 1) := by decide +kernel
theorem dL_law_664 : decode cL_law 664 = .ok (.iload_n 3, 1) := by decide +kernel
theorem dL_law_665 : decode cL_law 665 = .ok (.iconst 2, 1) := by decide +kernel
theorem dL_law_666 : decode cL_law 666 = .ok (.iadd, 1) := by decide +kernel
theorem dL_law_667 : decode cL_law 667 = .ok (.iaload, 1) := by decide +kernel
theorem dL_law_668 : decode cL_law 668 = .ok (.invokevirtual 86, 3) := by decide +kernel
theorem dL_law_671 : decode cL_law 671 = .ok (.aload_n 2, 1) := by decide +kernel
theorem dL_law_672 : decode cL_law 672 = .ok (.aload_n 0, 1) := by decide +kernel
theorem dL_law_673 : decode cL_law 673 = .ok (.iload_n 3, 1) := by decide +kernel
theorem dL_law_674 : decode cL_law 674 = .ok (.iconst 1, 1) := by decide +kernel
theorem dL_law_675 : decode cL_law 675 = .ok (.iadd, 1) := by decide +kernel
theorem dL_law_676 : decode cL_law 676 = .ok (.iaload, 1) := by decide +kernel
theorem dL_law_677 : decode cL_law 677 = .ok (.aload_n 0, 1) := by decide +kernel
theorem dL_law_678 : decode cL_law 678 = .ok (.iload_n 3, 1) := by decide +kernel
theorem dL_law_679 : decode cL_law 679 = .ok (.iconst 2, 1) := by decide +kernel
theorem dL_law_680 : decode cL_law 680 = .ok (.iadd, 1) := by decide +kernel
theorem dL_law_681 : decode cL_law 681 = .ok (.iaload, 1) := by decide +kernel
theorem dL_law_682 : decode cL_law 682 = .ok (.invokevirtual 89, 3) := by decide +kernel
theorem dL_law_685 : decode cL_law 685 = .ok (.if_icmp .eq 117, 3) := by decide +kernel
theorem dL_law_688 : decode cL_law 688 = .ok (.iconst 0, 1) := by decide +kernel
theorem dL_law_689 : decode cL_law 689 = .ok (.ireturn, 1) := by decide +kernel
theorem dL_law_690 : decode cL_law 690 = .ok (.aload_n 1, 1) := by decide +kernel
theorem dL_law_691 : decode cL_law 691 = .ok (.aload_n 0, 1) := by decide +kernel
theorem dL_law_692 : decode cL_law 692 = .ok (.iload_n 3, 1) := by decide +kernel
theorem dL_law_693 : decode cL_law 693 = .ok (.iconst 1, 1) := by decide +kernel
theorem dL_law_694 : decode cL_law 694 = .ok (.iadd, 1) := by decide +kernel
theorem dL_law_695 : decode cL_law 695 = .ok (.iaload, 1) := by decide +kernel
theorem dL_law_696 : decode cL_law 696 = .ok (.aload_n 0, 1) := by decide +kernel
theorem dL_law_697 : decode cL_law 697 = .ok (.iload_n 3, 1) := by decide +kernel
theorem dL_law_698 : decode cL_law 698 = .ok (.iconst 2, 1) := by decide +kernel
theorem dL_law_699 : decode cL_law 699 = .ok (.iadd, 1) := by decide +kernel
theorem dL_law_700 : decode cL_law 700 = .ok (.iaload, 1) := by decide +kernel
theorem dL_law_701 : decode cL_law 701 = .ok (.invokevirtual 90, 3) := by decide +kernel
theorem dL_law_704 : decode cL_law 704 = .ok (.aload_n 2, 1) := by decide +kernel
theorem dL_law_705 : decode cL_law 705 = .ok (.aload_n 0, 1) := by decide +kernel
theorem dL_law_706 : decode cL_law 706 = .ok (.iload_n 3, 1) := by decide +kernel
theorem dL_law_707 : decode cL_law 707 = .ok (.iconst 1, 1) := by decide +kernel
theorem dL_law_708 : decode cL_law 708 = .ok (.iadd, 1) := by decide +kernel
theorem dL_law_709 : decode cL_law 709 = .ok (.iaload, 1) := by decide +kernel
theorem dL_law_710 : decode cL_law 710 = .ok (.aload_n 0, 1) := by decide +kernel
theorem dL_law_711 : decode cL_law 711 = .ok (.iload_n 3, 1) := by decide +kernel
theorem dL_law_712 : decode cL_law 712 = .ok (.iconst 2, 1) := by decide +kernel
theorem dL_law_713 : decode cL_law 713 = .ok (.iadd, 1) := by decide +kernel
theorem dL_law_714 : decode cL_law 714 = .ok (.iaload, 1) := by decide +kernel
theorem dL_law_715 : decode cL_law 715 = .ok (.invokevirtual 93, 3) := by decide +kernel
theorem dL_law_718 : decode cL_law 718 = .ok (.if_icmp .eq 84, 3) := by decide +kernel
theorem dL_law_721 : decode cL_law 721 = .ok (.iconst 0, 1) := by decide +kernel
theorem dL_law_722 : decode cL_law 722 = .ok (.ireturn, 1) := by decide +kernel
theorem dL_law_723 : decode cL_law 723 = .ok (.aload_n 1, 1) := by decide +kernel
theorem dL_law_724 : decode cL_law 724 = .ok (.aload_n 0, 1) := by decide +kernel
theorem dL_law_725 : decode cL_law 725 = .ok (.iload_n 3, 1) := by decide +kernel
theorem dL_law_726 : decode cL_law 726 = .ok (.iconst 1, 1) := by decide +kernel
theorem dL_law_727 : decode cL_law 727 = .ok (.iadd, 1) := by decide +kernel
theorem dL_law_728 : decode cL_law 728 = .ok (.iaload, 1) := by decide +kernel
theorem dL_law_729 : decode cL_law 729 = .ok (.invokevirtual 94, 3) := by decide +kernel
theorem dL_law_732 : decode cL_law 732 = .ok (.aload_n 2, 1) := by decide +kernel
theorem dL_law_733 : decode cL_law 733 = .ok (.aload_n 0, 1) := by decide +kernel
theorem dL_law_734 : decode cL_law 734 = .ok (.iload_n 3, 1) := by decide +kernel
theorem dL_law_735 : decode cL_law 735 = .ok (.iconst 1, 1) := by decide +kernel
theorem dL_law_736 : decode cL_law 736 = .ok (.iadd, 1) := by decide +kernel
theorem dL_law_737 : decode cL_law 737 = .ok (.iaload, 1) := by decide +kernel
theorem dL_law_738 : decode cL_law 738 = .ok (.invokevirtual 97, 3) := by decide +kernel
theorem dL_law_741 : decode cL_law 741 = .ok (.if_icmp .eq 61, 3) := by decide +kernel
theorem dL_law_744 : decode cL_law 744 = .ok (.iconst 0, 1) := by decide +kernel
theorem dL_law_745 : decode cL_law 745 = .ok (.ireturn, 1) := by decide +kernel
theorem dL_law_746 : decode cL_law 746 = .ok (.aload_n 1, 1) := by decide +kernel
theorem dL_law_747 : decode cL_law 747 = .ok (.aload_n 0, 1) := by decide +kernel
theorem dL_law_748 : decode cL_law 748 = .ok (.iload_n 3, 1) := by decide +kernel
theorem dL_law_749 : decode cL_law 749 = .ok (.iconst 1, 1) := by decide +kernel
theorem dL_law_750 : decode cL_law 750 = .ok (.iadd, 1) := by decide +kernel
theorem dL_law_751 : decode cL_law 751 = .ok (.iaload, 1) := by decide +kernel
theorem dL_law_752 : decode cL_law 752 = .ok (.aload_n 0, 1) := by decide +kernel
theorem dL_law_753 : decode cL_law 753 = .ok (.iload_n 3, 1) := by decide +kernel
theorem dL_law_754 : decode cL_law 754 = .ok (.iconst 2, 1) := by decide +kernel
theorem dL_law_755 : decode cL_law 755 = .ok (.iadd, 1) := by decide +kernel
theorem dL_law_756 : decode cL_law 756 = .ok (.iaload, 1) := by decide +kernel
theorem dL_law_757 : decode cL_law 757 = .ok (.invokevirtual 98, 3) := by decide +kernel
theorem dL_law_760 : decode cL_law 760 = .ok (.aload_n 2, 1) := by decide +kernel
theorem dL_law_761 : decode cL_law 761 = .ok (.aload_n 0, 1) := by decide +kernel
theorem dL_law_762 : decode cL_law 762 = .ok (.iload_n 3, 1) := by decide +kernel
theorem dL_law_763 : decode cL_law 763 = .ok (.iconst 1, 1) := by decide +kernel
theorem dL_law_764 : decode cL_law 764 = .ok (.iadd, 1) := by decide +kernel
theorem dL_law_765 : decode cL_law 765 = .ok (.iaload, 1) := by decide +kernel
theorem dL_law_766 : decode cL_law 766 = .ok (.aload_n 0, 1) := by decide +kernel
theorem dL_law_767 : decode cL_law 767 = .ok (.iload_n 3, 1) := by decide +kernel
theorem dL_law_768 : decode cL_law 768 = .ok (.iconst 2, 1) := by decide +kernel
theorem dL_law_769 : decode cL_law 769 = .ok (.iadd, 1) := by decide +kernel
theorem dL_law_770 : decode cL_law 770 = .ok (.iaload, 1) := by decide +kernel
theorem dL_law_771 : decode cL_law 771 = .ok (.invokevirtual 101, 3) := by decide +kernel
theorem dL_law_774 : decode cL_law 774 = .ok (.if_icmp .eq 28, 3) := by decide +kernel
theorem dL_law_777 : decode cL_law 777 = .ok (.iconst 0, 1) := by decide +kernel
theorem dL_law_778 : decode cL_law 778 = .ok (.ireturn, 1) := by decide +kernel
theorem dL_law_779 : decode cL_law 779 = .ok (.aload_n 1, 1) := by decide +kernel
theorem dL_law_780 : decode cL_law 780 = .ok (.aload_n 0, 1) := by decide +kernel
theorem dL_law_781 : decode cL_law 781 = .ok (.iload_n 3, 1) := by decide +kernel
theorem dL_law_782 : decode cL_law 782 = .ok (.iconst 1, 1) := by decide +kernel
theorem dL_law_783 : decode cL_law 783 = .ok (.iadd, 1) := by decide +kernel
theorem dL_law_784 : decode cL_law 784 = .ok (.iaload, 1) := by decide +kernel
theorem dL_law_785 : decode cL_law 785 = .ok (.invokevirtual 102, 3) := by decide +kernel
theorem dL_law_788 : decode cL_law 788 = .ok (.aload_n 2, 1) := by decide +kernel
theorem dL_law_789 : decode cL_law 789 = .ok (.aload_n 0, 1) := by decide +kernel
theorem dL_law_790 : decode cL_law 790 = .ok (.iload_n 3, 1) := by decide +kernel
theorem dL_law_791 : decode cL_law 791 = .ok (.iconst 1, 1) := by decide +kernel
theorem dL_law_792 : decode cL_law 792 = .ok (.iadd, 1) := by decide +kernel
theorem dL_law_793 : decode cL_law 793 = .ok (.iaload, 1) := by decide +kernel
theorem dL_law_794 : decode cL_law 794 = .ok (.invokevirtual 105, 3) := by decide +kernel
theorem dL_law_797 : decode cL_law 797 = .ok (.if_icmp .eq 5, 3) := by decide +kernel
theorem dL_law_800 : decode cL_law 800 = .ok (.iconst 0, 1) := by decide +kernel
theorem dL_law_801 : decode cL_law 801 = .ok (.ireturn, 1) := by decide +kernel
theorem dL_law_802 : decode cL_law 802 = .ok (.iinc 3 6, 3) := by decide +kernel
theorem dL_law_805 : decode cL_law 805 = .ok (.goto (-787), 3) := by decide +kernel
theorem dL_law_808 : decode cL_law 808 = .ok (.iconst 1, 1) := by decide +kernel
theorem dL_law_809 : decode cL_law 809 = .ok (.ireturn, 1) := by decide +kernel
