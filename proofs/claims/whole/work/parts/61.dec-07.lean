/-! Instructions -/
theorem d_Mo_match_0 : decode m_Mo_match.2.1 0 = .ok (.iconst 0, 1) := by decide +kernel
theorem d_Mo_match_1 : decode m_Mo_match.2.1 1 = .ok (.istore 4, 2) := by decide +kernel
theorem d_Mo_match_3 : decode m_Mo_match.2.1 3 = .ok (.iload 4, 2) := by decide +kernel
theorem d_Mo_match_5 : decode m_Mo_match.2.1 5 = .ok (.bipush (6), 2) := by decide +kernel
theorem d_Mo_match_7 : decode m_Mo_match.2.1 7 = .ok (.if_icmp .ge (17), 3) := by decide +kernel
theorem d_Mo_match_10 : decode m_Mo_match.2.1 10 = .ok (.aload_n 0, 1) := by decide +kernel
theorem d_Mo_match_11 : decode m_Mo_match.2.1 11 = .ok (.getfield 65, 3) := by decide +kernel
theorem d_Mo_match_14 : decode m_Mo_match.2.1 14 = .ok (.iload 4, 2) := by decide +kernel
theorem d_Mo_match_16 : decode m_Mo_match.2.1 16 = .ok (.iconst (-1), 1) := by decide +kernel
theorem d_Mo_match_17 : decode m_Mo_match.2.1 17 = .ok (.iastore, 1) := by decide +kernel
theorem d_Mo_match_18 : decode m_Mo_match.2.1 18 = .ok (.iinc 4 (1), 3) := by decide +kernel
theorem d_Mo_match_21 : decode m_Mo_match.2.1 21 = .ok (.goto (-18), 3) := by decide +kernel
theorem d_Mo_match_24 : decode m_Mo_match.2.1 24 = .ok (.aload_n 0, 1) := by decide +kernel
theorem d_Mo_match_25 : decode m_Mo_match.2.1 25 = .ok (.iconst 0, 1) := by decide +kernel
theorem d_Mo_match_26 : decode m_Mo_match.2.1 26 = .ok (.putfield 163, 3) := by decide +kernel
theorem d_Mo_match_29 : decode m_Mo_match.2.1 29 = .ok (.iload_n 3, 1) := by decide +kernel
theorem d_Mo_match_30 : decode m_Mo_match.2.1 30 = .ok (.istore 4, 2) := by decide +kernel
theorem d_Mo_match_32 : decode m_Mo_match.2.1 32 = .ok (.iconst 0, 1) := by decide +kernel
theorem d_Mo_match_33 : decode m_Mo_match.2.1 33 = .ok (.istore 5, 2) := by decide +kernel
theorem d_Mo_match_35 : decode m_Mo_match.2.1 35 = .ok (.iconst 0, 1) := by decide +kernel
theorem d_Mo_match_36 : decode m_Mo_match.2.1 36 = .ok (.istore 6, 2) := by decide +kernel
theorem d_Mo_match_38 : decode m_Mo_match.2.1 38 = .ok (.aload_n 0, 1) := by decide +kernel
theorem d_Mo_match_39 : decode m_Mo_match.2.1 39 = .ok (.getfield 50, 3) := by decide +kernel
theorem d_Mo_match_42 : decode m_Mo_match.2.1 42 = .ok (.iload_n 1, 1) := by decide +kernel
theorem d_Mo_match_43 : decode m_Mo_match.2.1 43 = .ok (.iaload, 1) := by decide +kernel
theorem d_Mo_match_44 : decode m_Mo_match.2.1 44 = .ok (.ifCond .lt (16), 3) := by decide +kernel
theorem d_Mo_match_47 : decode m_Mo_match.2.1 47 = .ok (.aload_n 0, 1) := by decide +kernel
theorem d_Mo_match_48 : decode m_Mo_match.2.1 48 = .ok (.iconst 3, 1) := by decide +kernel
theorem d_Mo_match_49 : decode m_Mo_match.2.1 49 = .ok (.aload_n 0, 1) := by decide +kernel
theorem d_Mo_match_50 : decode m_Mo_match.2.1 50 = .ok (.getfield 50, 3) := by decide +kernel
theorem d_Mo_match_53 : decode m_Mo_match.2.1 53 = .ok (.iload_n 1, 1) := by decide +kernel
theorem d_Mo_match_54 : decode m_Mo_match.2.1 54 = .ok (.iaload, 1) := by decide +kernel
theorem d_Mo_match_55 : decode m_Mo_match.2.1 55 = .ok (.iload 4, 2) := by decide +kernel
theorem d_Mo_match_57 : decode m_Mo_match.2.1 57 = .ok (.invokevirtual 181, 3) := by decide +kernel
theorem d_Mo_match_60 : decode m_Mo_match.2.1 60 = .ok (.iconst 0, 1) := by decide +kernel
theorem d_Mo_match_61 : decode m_Mo_match.2.1 61 = .ok (.istore 7, 2) := by decide +kernel
theorem d_Mo_match_63 : decode m_Mo_match.2.1 63 = .ok (.iload 7, 2) := by decide +kernel
theorem d_Mo_match_65 : decode m_Mo_match.2.1 65 = .ok (.sipush (20000), 3) := by decide +kernel
theorem d_Mo_match_68 : decode m_Mo_match.2.1 68 = .ok (.if_icmp .ge (500), 3) := by decide +kernel
theorem d_Mo_match_71 : decode m_Mo_match.2.1 71 = .ok (.iload 6, 2) := by decide +kernel
theorem d_Mo_match_73 : decode m_Mo_match.2.1 73 = .ok (.iconst 5, 1) := by decide +kernel
theorem d_Mo_match_74 : decode m_Mo_match.2.1 74 = .ok (.if_icmp .eq (494), 3) := by decide +kernel
theorem d_Mo_match_77 : decode m_Mo_match.2.1 77 = .ok (.bipush (21), 2) := by decide +kernel
theorem d_Mo_match_79 : decode m_Mo_match.2.1 79 = .ok (.iload_n 1, 1) := by decide +kernel
theorem d_Mo_match_80 : decode m_Mo_match.2.1 80 = .ok (.imul, 1) := by decide +kernel
theorem d_Mo_match_81 : decode m_Mo_match.2.1 81 = .ok (.iload 5, 2) := by decide +kernel
theorem d_Mo_match_83 : decode m_Mo_match.2.1 83 = .ok (.iadd, 1) := by decide +kernel
theorem d_Mo_match_84 : decode m_Mo_match.2.1 84 = .ok (.istore 8, 2) := by decide +kernel
theorem d_Mo_match_86 : decode m_Mo_match.2.1 86 = .ok (.iload 6, 2) := by decide +kernel
theorem d_Mo_match_88 : decode m_Mo_match.2.1 88 = .ok (.ifCond .ne (69), 3) := by decide +kernel
theorem d_Mo_match_91 : decode m_Mo_match.2.1 91 = .ok (.aload_n 0, 1) := by decide +kernel
theorem d_Mo_match_92 : decode m_Mo_match.2.1 92 = .ok (.iload_n 1, 1) := by decide +kernel
theorem d_Mo_match_93 : decode m_Mo_match.2.1 93 = .ok (.iload 5, 2) := by decide +kernel
theorem d_Mo_match_95 : decode m_Mo_match.2.1 95 = .ok (.invokevirtual 184, 3) := by decide +kernel
theorem d_Mo_match_98 : decode m_Mo_match.2.1 98 = .ok (.ifCond .eq (59), 3) := by decide +kernel
theorem d_Mo_match_101 : decode m_Mo_match.2.1 101 = .ok (.aload_n 0, 1) := by decide +kernel
theorem d_Mo_match_102 : decode m_Mo_match.2.1 102 = .ok (.getfield 44, 3) := by decide +kernel
theorem d_Mo_match_105 : decode m_Mo_match.2.1 105 = .ok (.iload 8, 2) := by decide +kernel
theorem d_Mo_match_107 : decode m_Mo_match.2.1 107 = .ok (.iaload, 1) := by decide +kernel
theorem d_Mo_match_108 : decode m_Mo_match.2.1 108 = .ok (.istore 9, 2) := by decide +kernel
theorem d_Mo_match_110 : decode m_Mo_match.2.1 110 = .ok (.iload 9, 2) := by decide +kernel
theorem d_Mo_match_112 : decode m_Mo_match.2.1 112 = .ok (.ifCond .ge (7), 3) := by decide +kernel
theorem d_Mo_match_115 : decode m_Mo_match.2.1 115 = .ok (.iconst 5, 1) := by decide +kernel
theorem d_Mo_match_116 : decode m_Mo_match.2.1 116 = .ok (.goto (4), 3) := by decide +kernel
theorem d_Mo_match_119 : decode m_Mo_match.2.1 119 = .ok (.iconst 2, 1) := by decide +kernel
theorem d_Mo_match_120 : decode m_Mo_match.2.1 120 = .ok (.istore 6, 2) := by decide +kernel
theorem d_Mo_match_122 : decode m_Mo_match.2.1 122 = .ok (.iload 9, 2) := by decide +kernel
theorem d_Mo_match_124 : decode m_Mo_match.2.1 124 = .ok (.ifCond .lt (30), 3) := by decide +kernel
theorem d_Mo_match_127 : decode m_Mo_match.2.1 127 = .ok (.aload_n 0, 1) := by decide +kernel
theorem d_Mo_match_128 : decode m_Mo_match.2.1 128 = .ok (.getfield 65, 3) := by decide +kernel
theorem d_Mo_match_131 : decode m_Mo_match.2.1 131 = .ok (.iconst 2, 1) := by decide +kernel
theorem d_Mo_match_132 : decode m_Mo_match.2.1 132 = .ok (.aload_n 0, 1) := by decide +kernel
theorem d_Mo_match_133 : decode m_Mo_match.2.1 133 = .ok (.getfield 41, 3) := by decide +kernel
theorem d_Mo_match_136 : decode m_Mo_match.2.1 136 = .ok (.bipush (21), 2) := by decide +kernel
theorem d_Mo_match_138 : decode m_Mo_match.2.1 138 = .ok (.iload_n 1, 1) := by decide +kernel
theorem d_Mo_match_139 : decode m_Mo_match.2.1 139 = .ok (.imul, 1) := by decide +kernel
theorem d_Mo_match_140 : decode m_Mo_match.2.1 140 = .ok (.iload 9, 2) := by decide +kernel
theorem d_Mo_match_142 : decode m_Mo_match.2.1 142 = .ok (.iadd, 1) := by decide +kernel
theorem d_Mo_match_143 : decode m_Mo_match.2.1 143 = .ok (.iaload, 1) := by decide +kernel
theorem d_Mo_match_144 : decode m_Mo_match.2.1 144 = .ok (.imul, 1) := by decide +kernel
theorem d_Mo_match_145 : decode m_Mo_match.2.1 145 = .ok (.iconst 1, 1) := by decide +kernel
theorem d_Mo_match_146 : decode m_Mo_match.2.1 146 = .ok (.iadd, 1) := by decide +kernel
theorem d_Mo_match_147 : decode m_Mo_match.2.1 147 = .ok (.iload 4, 2) := by decide +kernel
theorem d_Mo_match_149 : decode m_Mo_match.2.1 149 = .ok (.iastore, 1) := by decide +kernel
theorem d_Mo_match_150 : decode m_Mo_match.2.1 150 = .ok (.iload 9, 2) := by decide +kernel
theorem d_Mo_match_152 : decode m_Mo_match.2.1 152 = .ok (.istore 5, 2) := by decide +kernel
theorem d_Mo_match_154 : decode m_Mo_match.2.1 154 = .ok (.goto (408), 3) := by decide +kernel
theorem d_Mo_match_157 : decode m_Mo_match.2.1 157 = .ok (.iload 6, 2) := by decide +kernel
theorem d_Mo_match_159 : decode m_Mo_match.2.1 159 = .ok (.ifCond .ne (32), 3) := by decide +kernel
theorem d_Mo_match_162 : decode m_Mo_match.2.1 162 = .ok (.aload_n 0, 1) := by decide +kernel
theorem d_Mo_match_163 : decode m_Mo_match.2.1 163 = .ok (.getfield 32, 3) := by decide +kernel
theorem d_Mo_match_166 : decode m_Mo_match.2.1 166 = .ok (.iload 8, 2) := by decide +kernel
theorem d_Mo_match_168 : decode m_Mo_match.2.1 168 = .ok (.iaload, 1) := by decide +kernel
theorem d_Mo_match_169 : decode m_Mo_match.2.1 169 = .ok (.ifCond .eq (16), 3) := by decide +kernel
theorem d_Mo_match_172 : decode m_Mo_match.2.1 172 = .ok (.aload_n 0, 1) := by decide +kernel
theorem d_Mo_match_173 : decode m_Mo_match.2.1 173 = .ok (.getfield 32, 3) := by decide +kernel
theorem d_Mo_match_176 : decode m_Mo_match.2.1 176 = .ok (.iload 8, 2) := by decide +kernel
theorem d_Mo_match_178 : decode m_Mo_match.2.1 178 = .ok (.iaload, 1) := by decide +kernel
theorem d_Mo_match_179 : decode m_Mo_match.2.1 179 = .ok (.iconst 4, 1) := by decide +kernel
theorem d_Mo_match_180 : decode m_Mo_match.2.1 180 = .ok (.irem, 1) := by decide +kernel
theorem d_Mo_match_181 : decode m_Mo_match.2.1 181 = .ok (.iconst 2, 1) := by decide +kernel
theorem d_Mo_match_182 : decode m_Mo_match.2.1 182 = .ok (.if_icmp .ne (9), 3) := by decide +kernel
theorem d_Mo_match_185 : decode m_Mo_match.2.1 185 = .ok (.iconst 1, 1) := by decide +kernel
theorem d_Mo_match_186 : decode m_Mo_match.2.1 186 = .ok (.istore 6, 2) := by decide +kernel
theorem d_Mo_match_188 : decode m_Mo_match.2.1 188 = .ok (.goto (374), 3) := by decide +kernel
theorem d_Mo_match_191 : decode m_Mo_match.2.1 191 = .ok (.iload 6, 2) := by decide +kernel
theorem d_Mo_match_193 : decode m_Mo_match.2.1 193 = .ok (.iconst 2, 1) := by decide +kernel
theorem d_Mo_match_194 : decode m_Mo_match.2.1 194 = .ok (.if_icmp .ne (41), 3) := by decide +kernel
theorem d_Mo_match_197 : decode m_Mo_match.2.1 197 = .ok (.aload_n 0, 1) := by decide +kernel
theorem d_Mo_match_198 : decode m_Mo_match.2.1 198 = .ok (.getfield 32, 3) := by decide +kernel
theorem d_Mo_match_201 : decode m_Mo_match.2.1 201 = .ok (.iload 8, 2) := by decide +kernel
theorem d_Mo_match_203 : decode m_Mo_match.2.1 203 = .ok (.iaload, 1) := by decide +kernel
theorem d_Mo_match_204 : decode m_Mo_match.2.1 204 = .ok (.ifCond .eq (16), 3) := by decide +kernel
theorem d_Mo_match_207 : decode m_Mo_match.2.1 207 = .ok (.aload_n 0, 1) := by decide +kernel
theorem d_Mo_match_208 : decode m_Mo_match.2.1 208 = .ok (.getfield 32, 3) := by decide +kernel
theorem d_Mo_match_211 : decode m_Mo_match.2.1 211 = .ok (.iload 8, 2) := by decide +kernel
theorem d_Mo_match_213 : decode m_Mo_match.2.1 213 = .ok (.iaload, 1) := by decide +kernel
theorem d_Mo_match_214 : decode m_Mo_match.2.1 214 = .ok (.iconst 4, 1) := by decide +kernel
theorem d_Mo_match_215 : decode m_Mo_match.2.1 215 = .ok (.irem, 1) := by decide +kernel
theorem d_Mo_match_216 : decode m_Mo_match.2.1 216 = .ok (.iconst 3, 1) := by decide +kernel
theorem d_Mo_match_217 : decode m_Mo_match.2.1 217 = .ok (.if_icmp .ne (18), 3) := by decide +kernel
theorem d_Mo_match_220 : decode m_Mo_match.2.1 220 = .ok (.aload_n 0, 1) := by decide +kernel
theorem d_Mo_match_221 : decode m_Mo_match.2.1 221 = .ok (.getfield 38, 3) := by decide +kernel
theorem d_Mo_match_224 : decode m_Mo_match.2.1 224 = .ok (.iload 8, 2) := by decide +kernel
theorem d_Mo_match_226 : decode m_Mo_match.2.1 226 = .ok (.iaload, 1) := by decide +kernel
theorem d_Mo_match_227 : decode m_Mo_match.2.1 227 = .ok (.istore 5, 2) := by decide +kernel
theorem d_Mo_match_229 : decode m_Mo_match.2.1 229 = .ok (.iconst 0, 1) := by decide +kernel
theorem d_Mo_match_230 : decode m_Mo_match.2.1 230 = .ok (.istore 6, 2) := by decide +kernel
theorem d_Mo_match_232 : decode m_Mo_match.2.1 232 = .ok (.goto (330), 3) := by decide +kernel
theorem d_Mo_match_235 : decode m_Mo_match.2.1 235 = .ok (.iload 6, 2) := by decide +kernel
theorem d_Mo_match_237 : decode m_Mo_match.2.1 237 = .ok (.ifCond .eq (9), 3) := by decide +kernel
theorem d_Mo_match_240 : decode m_Mo_match.2.1 240 = .ok (.iload 6, 2) := by decide +kernel
theorem d_Mo_match_242 : decode m_Mo_match.2.1 242 = .ok (.iconst 2, 1) := by decide +kernel
theorem d_Mo_match_243 : decode m_Mo_match.2.1 243 = .ok (.if_icmp .ne (88), 3) := by decide +kernel
theorem d_Mo_match_246 : decode m_Mo_match.2.1 246 = .ok (.aload_n 0, 1) := by decide +kernel
theorem d_Mo_match_247 : decode m_Mo_match.2.1 247 = .ok (.getfield 32, 3) := by decide +kernel
theorem d_Mo_match_250 : decode m_Mo_match.2.1 250 = .ok (.iload 8, 2) := by decide +kernel
theorem d_Mo_match_252 : decode m_Mo_match.2.1 252 = .ok (.iaload, 1) := by decide +kernel
theorem d_Mo_match_253 : decode m_Mo_match.2.1 253 = .ok (.iconst 4, 1) := by decide +kernel
theorem d_Mo_match_254 : decode m_Mo_match.2.1 254 = .ok (.if_icmp .le (7), 3) := by decide +kernel
theorem d_Mo_match_257 : decode m_Mo_match.2.1 257 = .ok (.iconst 1, 1) := by decide +kernel
theorem d_Mo_match_258 : decode m_Mo_match.2.1 258 = .ok (.goto (4), 3) := by decide +kernel
theorem d_Mo_match_261 : decode m_Mo_match.2.1 261 = .ok (.iconst 0, 1) := by decide +kernel
theorem d_Mo_match_262 : decode m_Mo_match.2.1 262 = .ok (.istore 9, 2) := by decide +kernel
theorem d_Mo_match_264 : decode m_Mo_match.2.1 264 = .ok (.aload_n 0, 1) := by decide +kernel
theorem d_Mo_match_265 : decode m_Mo_match.2.1 265 = .ok (.iload 9, 2) := by decide +kernel
theorem d_Mo_match_267 : decode m_Mo_match.2.1 267 = .ok (.ifCond .eq (7), 3) := by decide +kernel
theorem d_Mo_match_270 : decode m_Mo_match.2.1 270 = .ok (.iconst 1, 1) := by decide +kernel
theorem d_Mo_match_271 : decode m_Mo_match.2.1 271 = .ok (.goto (4), 3) := by decide +kernel
theorem d_Mo_match_274 : decode m_Mo_match.2.1 274 = .ok (.iconst 0, 1) := by decide +kernel
theorem d_Mo_match_275 : decode m_Mo_match.2.1 275 = .ok (.iload 9, 2) := by decide +kernel
theorem d_Mo_match_277 : decode m_Mo_match.2.1 277 = .ok (.ifCond .eq (8), 3) := by decide +kernel
theorem d_Mo_match_280 : decode m_Mo_match.2.1 280 = .ok (.iload 5, 2) := by decide +kernel
theorem d_Mo_match_282 : decode m_Mo_match.2.1 282 = .ok (.goto (10), 3) := by decide +kernel
theorem d_Mo_match_285 : decode m_Mo_match.2.1 285 = .ok (.aload_n 0, 1) := by decide +kernel
theorem d_Mo_match_286 : decode m_Mo_match.2.1 286 = .ok (.getfield 38, 3) := by decide +kernel
theorem d_Mo_match_289 : decode m_Mo_match.2.1 289 = .ok (.iload 8, 2) := by decide +kernel
theorem d_Mo_match_291 : decode m_Mo_match.2.1 291 = .ok (.iaload, 1) := by decide +kernel
theorem d_Mo_match_292 : decode m_Mo_match.2.1 292 = .ok (.iload 4, 2) := by decide +kernel
theorem d_Mo_match_294 : decode m_Mo_match.2.1 294 = .ok (.invokevirtual 181, 3) := by decide +kernel
theorem d_Mo_match_297 : decode m_Mo_match.2.1 297 = .ok (.iload 9, 2) := by decide +kernel
theorem d_Mo_match_299 : decode m_Mo_match.2.1 299 = .ok (.ifCond .eq (13), 3) := by decide +kernel
theorem d_Mo_match_302 : decode m_Mo_match.2.1 302 = .ok (.aload_n 0, 1) := by decide +kernel
theorem d_Mo_match_303 : decode m_Mo_match.2.1 303 = .ok (.getfield 38, 3) := by decide +kernel
theorem d_Mo_match_306 : decode m_Mo_match.2.1 306 = .ok (.iload 8, 2) := by decide +kernel
theorem d_Mo_match_308 : decode m_Mo_match.2.1 308 = .ok (.iaload, 1) := by decide +kernel
theorem d_Mo_match_309 : decode m_Mo_match.2.1 309 = .ok (.goto (5), 3) := by decide +kernel
theorem d_Mo_match_312 : decode m_Mo_match.2.1 312 = .ok (.iload 5, 2) := by decide +kernel
theorem d_Mo_match_314 : decode m_Mo_match.2.1 314 = .ok (.istore 5, 2) := by decide +kernel
theorem d_Mo_match_316 : decode m_Mo_match.2.1 316 = .ok (.iload 9, 2) := by decide +kernel
theorem d_Mo_match_318 : decode m_Mo_match.2.1 318 = .ok (.ifCond .eq (7), 3) := by decide +kernel
theorem d_Mo_match_321 : decode m_Mo_match.2.1 321 = .ok (.iconst 0, 1) := by decide +kernel
theorem d_Mo_match_322 : decode m_Mo_match.2.1 322 = .ok (.goto (4), 3) := by decide +kernel
theorem d_Mo_match_325 : decode m_Mo_match.2.1 325 = .ok (.iconst 1, 1) := by decide +kernel
theorem d_Mo_match_326 : decode m_Mo_match.2.1 326 = .ok (.istore 6, 2) := by decide +kernel
theorem d_Mo_match_328 : decode m_Mo_match.2.1 328 = .ok (.goto (234), 3) := by decide +kernel
theorem d_Mo_match_331 : decode m_Mo_match.2.1 331 = .ok (.iload 6, 2) := by decide +kernel
theorem d_Mo_match_333 : decode m_Mo_match.2.1 333 = .ok (.iconst 1, 1) := by decide +kernel
theorem d_Mo_match_334 : decode m_Mo_match.2.1 334 = .ok (.if_icmp .ne (15), 3) := by decide +kernel
theorem d_Mo_match_337 : decode m_Mo_match.2.1 337 = .ok (.aload_n 0, 1) := by decide +kernel
theorem d_Mo_match_338 : decode m_Mo_match.2.1 338 = .ok (.iload_n 1, 1) := by decide +kernel
theorem d_Mo_match_339 : decode m_Mo_match.2.1 339 = .ok (.iload 5, 2) := by decide +kernel
theorem d_Mo_match_341 : decode m_Mo_match.2.1 341 = .ok (.invokevirtual 132, 3) := by decide +kernel
theorem d_Mo_match_344 : decode m_Mo_match.2.1 344 = .ok (.bipush (40), 2) := by decide +kernel
theorem d_Mo_match_346 : decode m_Mo_match.2.1 346 = .ok (.if_icmp .eq (9), 3) := by decide +kernel
theorem d_Mo_match_349 : decode m_Mo_match.2.1 349 = .ok (.iload 6, 2) := by decide +kernel
theorem d_Mo_match_351 : decode m_Mo_match.2.1 351 = .ok (.iconst 3, 1) := by decide +kernel
theorem d_Mo_match_352 : decode m_Mo_match.2.1 352 = .ok (.if_icmp .ne (58), 3) := by decide +kernel
theorem d_Mo_match_355 : decode m_Mo_match.2.1 355 = .ok (.iload 6, 2) := by decide +kernel
theorem d_Mo_match_357 : decode m_Mo_match.2.1 357 = .ok (.iconst 1, 1) := by decide +kernel
theorem d_Mo_match_358 : decode m_Mo_match.2.1 358 = .ok (.if_icmp .ne (19), 3) := by decide +kernel
theorem d_Mo_match_361 : decode m_Mo_match.2.1 361 = .ok (.aload_n 0, 1) := by decide +kernel
theorem d_Mo_match_362 : decode m_Mo_match.2.1 362 = .ok (.getfield 65, 3) := by decide +kernel
theorem d_Mo_match_365 : decode m_Mo_match.2.1 365 = .ok (.iconst 2, 1) := by decide +kernel
theorem d_Mo_match_366 : decode m_Mo_match.2.1 366 = .ok (.aload_n 0, 1) := by decide +kernel
theorem d_Mo_match_367 : decode m_Mo_match.2.1 367 = .ok (.getfield 41, 3) := by decide +kernel
theorem d_Mo_match_370 : decode m_Mo_match.2.1 370 = .ok (.iload 8, 2) := by decide +kernel
theorem d_Mo_match_372 : decode m_Mo_match.2.1 372 = .ok (.iaload, 1) := by decide +kernel
theorem d_Mo_match_373 : decode m_Mo_match.2.1 373 = .ok (.imul, 1) := by decide +kernel
theorem d_Mo_match_374 : decode m_Mo_match.2.1 374 = .ok (.iload 4, 2) := by decide +kernel
theorem d_Mo_match_376 : decode m_Mo_match.2.1 376 = .ok (.iastore, 1) := by decide +kernel
theorem d_Mo_match_377 : decode m_Mo_match.2.1 377 = .ok (.aload_n 0, 1) := by decide +kernel
theorem d_Mo_match_378 : decode m_Mo_match.2.1 378 = .ok (.getfield 47, 3) := by decide +kernel
theorem d_Mo_match_381 : decode m_Mo_match.2.1 381 = .ok (.iload 8, 2) := by decide +kernel
theorem d_Mo_match_383 : decode m_Mo_match.2.1 383 = .ok (.iaload, 1) := by decide +kernel
theorem d_Mo_match_384 : decode m_Mo_match.2.1 384 = .ok (.ifCond .lt (17), 3) := by decide +kernel
theorem d_Mo_match_387 : decode m_Mo_match.2.1 387 = .ok (.aload_n 0, 1) := by decide +kernel
theorem d_Mo_match_388 : decode m_Mo_match.2.1 388 = .ok (.iconst 3, 1) := by decide +kernel
theorem d_Mo_match_389 : decode m_Mo_match.2.1 389 = .ok (.aload_n 0, 1) := by decide +kernel
theorem d_Mo_match_390 : decode m_Mo_match.2.1 390 = .ok (.getfield 47, 3) := by decide +kernel
theorem d_Mo_match_393 : decode m_Mo_match.2.1 393 = .ok (.iload 8, 2) := by decide +kernel
theorem d_Mo_match_395 : decode m_Mo_match.2.1 395 = .ok (.iaload, 1) := by decide +kernel
theorem d_Mo_match_396 : decode m_Mo_match.2.1 396 = .ok (.iload 4, 2) := by decide +kernel
theorem d_Mo_match_398 : decode m_Mo_match.2.1 398 = .ok (.invokevirtual 181, 3) := by decide +kernel
theorem d_Mo_match_401 : decode m_Mo_match.2.1 401 = .ok (.iinc 5 (1), 3) := by decide +kernel
theorem d_Mo_match_404 : decode m_Mo_match.2.1 404 = .ok (.iconst 0, 1) := by decide +kernel
theorem d_Mo_match_405 : decode m_Mo_match.2.1 405 = .ok (.istore 6, 2) := by decide +kernel
theorem d_Mo_match_407 : decode m_Mo_match.2.1 407 = .ok (.goto (155), 3) := by decide +kernel
theorem d_Mo_match_410 : decode m_Mo_match.2.1 410 = .ok (.iload 6, 2) := by decide +kernel
theorem d_Mo_match_412 : decode m_Mo_match.2.1 412 = .ok (.iconst 1, 1) := by decide +kernel
theorem d_Mo_match_413 : decode m_Mo_match.2.1 413 = .ok (.if_icmp .ne (44), 3) := by decide +kernel
theorem d_Mo_match_416 : decode m_Mo_match.2.1 416 = .ok (.aload_n 0, 1) := by decide +kernel
theorem d_Mo_match_417 : decode m_Mo_match.2.1 417 = .ok (.iload_n 1, 1) := by decide +kernel
theorem d_Mo_match_418 : decode m_Mo_match.2.1 418 = .ok (.iload 5, 2) := by decide +kernel
theorem d_Mo_match_420 : decode m_Mo_match.2.1 420 = .ok (.iload_n 2, 1) := by decide +kernel
theorem d_Mo_match_421 : decode m_Mo_match.2.1 421 = .ok (.iload 4, 2) := by decide +kernel
theorem d_Mo_match_423 : decode m_Mo_match.2.1 423 = .ok (.invokevirtual 187, 3) := by decide +kernel
theorem d_Mo_match_426 : decode m_Mo_match.2.1 426 = .ok (.istore 9, 2) := by decide +kernel
theorem d_Mo_match_428 : decode m_Mo_match.2.1 428 = .ok (.iload 9, 2) := by decide +kernel
theorem d_Mo_match_430 : decode m_Mo_match.2.1 430 = .ok (.ifCond .ge (8), 3) := by decide +kernel
theorem d_Mo_match_433 : decode m_Mo_match.2.1 433 = .ok (.iload 4, 2) := by decide +kernel
theorem d_Mo_match_435 : decode m_Mo_match.2.1 435 = .ok (.goto (5), 3) := by decide +kernel
theorem d_Mo_match_438 : decode m_Mo_match.2.1 438 = .ok (.iload 9, 2) := by decide +kernel
theorem d_Mo_match_440 : decode m_Mo_match.2.1 440 = .ok (.istore 4, 2) := by decide +kernel
theorem d_Mo_match_442 : decode m_Mo_match.2.1 442 = .ok (.iload 9, 2) := by decide +kernel
theorem d_Mo_match_444 : decode m_Mo_match.2.1 444 = .ok (.ifCond .ge (7), 3) := by decide +kernel
theorem d_Mo_match_447 : decode m_Mo_match.2.1 447 = .ok (.iconst 4, 1) := by decide +kernel
theorem d_Mo_match_448 : decode m_Mo_match.2.1 448 = .ok (.goto (4), 3) := by decide +kernel
theorem d_Mo_match_451 : decode m_Mo_match.2.1 451 = .ok (.iconst 2, 1) := by decide +kernel
theorem d_Mo_match_452 : decode m_Mo_match.2.1 452 = .ok (.istore 6, 2) := by decide +kernel
theorem d_Mo_match_454 : decode m_Mo_match.2.1 454 = .ok (.goto (108), 3) := by decide +kernel
theorem d_Mo_match_457 : decode m_Mo_match.2.1 457 = .ok (.aload_n 0, 1) := by decide +kernel
theorem d_Mo_match_458 : decode m_Mo_match.2.1 458 = .ok (.getfield 163, 3) := by decide +kernel
theorem d_Mo_match_461 : decode m_Mo_match.2.1 461 = .ok (.ifCond .eq (10), 3) := by decide +kernel
theorem d_Mo_match_464 : decode m_Mo_match.2.1 464 = .ok (.aload_n 0, 1) := by decide +kernel
theorem d_Mo_match_465 : decode m_Mo_match.2.1 465 = .ok (.getfield 169, 3) := by decide +kernel
theorem d_Mo_match_468 : decode m_Mo_match.2.1 468 = .ok (.ifCond .eq (9), 3) := by decide +kernel
theorem d_Mo_match_471 : decode m_Mo_match.2.1 471 = .ok (.aload_n 0, 1) := by decide +kernel
theorem d_Mo_match_472 : decode m_Mo_match.2.1 472 = .ok (.iconst (-1), 1) := by decide +kernel
theorem d_Mo_match_473 : decode m_Mo_match.2.1 473 = .ok (.putfield 191, 3) := by decide +kernel
theorem d_Mo_match_476 : decode m_Mo_match.2.1 476 = .ok (.return_, 1) := by decide +kernel
theorem d_Mo_match_477 : decode m_Mo_match.2.1 477 = .ok (.aload_n 0, 1) := by decide +kernel
theorem d_Mo_match_478 : decode m_Mo_match.2.1 478 = .ok (.dup, 1) := by decide +kernel
theorem d_Mo_match_479 : decode m_Mo_match.2.1 479 = .ok (.getfield 163, 3) := by decide +kernel
theorem d_Mo_match_482 : decode m_Mo_match.2.1 482 = .ok (.iconst 1, 1) := by decide +kernel
theorem d_Mo_match_483 : decode m_Mo_match.2.1 483 = .ok (.isub, 1) := by decide +kernel
theorem d_Mo_match_484 : decode m_Mo_match.2.1 484 = .ok (.putfield 163, 3) := by decide +kernel
theorem d_Mo_match_487 : decode m_Mo_match.2.1 487 = .ok (.bipush (9), 2) := by decide +kernel
theorem d_Mo_match_489 : decode m_Mo_match.2.1 489 = .ok (.aload_n 0, 1) := by decide +kernel
theorem d_Mo_match_490 : decode m_Mo_match.2.1 490 = .ok (.getfield 163, 3) := by decide +kernel
theorem d_Mo_match_493 : decode m_Mo_match.2.1 493 = .ok (.imul, 1) := by decide +kernel
theorem d_Mo_match_494 : decode m_Mo_match.2.1 494 = .ok (.istore 9, 2) := by decide +kernel
theorem d_Mo_match_496 : decode m_Mo_match.2.1 496 = .ok (.aload_n 0, 1) := by decide +kernel
theorem d_Mo_match_497 : decode m_Mo_match.2.1 497 = .ok (.getfield 68, 3) := by decide +kernel
theorem d_Mo_match_500 : decode m_Mo_match.2.1 500 = .ok (.iload 9, 2) := by decide +kernel
theorem d_Mo_match_502 : decode m_Mo_match.2.1 502 = .ok (.iaload, 1) := by decide +kernel
theorem d_Mo_match_503 : decode m_Mo_match.2.1 503 = .ok (.istore 6, 2) := by decide +kernel
theorem d_Mo_match_505 : decode m_Mo_match.2.1 505 = .ok (.aload_n 0, 1) := by decide +kernel
theorem d_Mo_match_506 : decode m_Mo_match.2.1 506 = .ok (.getfield 68, 3) := by decide +kernel
theorem d_Mo_match_509 : decode m_Mo_match.2.1 509 = .ok (.iload 9, 2) := by decide +kernel
theorem d_Mo_match_511 : decode m_Mo_match.2.1 511 = .ok (.iconst 1, 1) := by decide +kernel
theorem d_Mo_match_512 : decode m_Mo_match.2.1 512 = .ok (.iadd, 1) := by decide +kernel
theorem d_Mo_match_513 : decode m_Mo_match.2.1 513 = .ok (.iaload, 1) := by decide +kernel
theorem d_Mo_match_514 : decode m_Mo_match.2.1 514 = .ok (.istore 5, 2) := by decide +kernel
theorem d_Mo_match_516 : decode m_Mo_match.2.1 516 = .ok (.aload_n 0, 1) := by decide +kernel
theorem d_Mo_match_517 : decode m_Mo_match.2.1 517 = .ok (.getfield 68, 3) := by decide +kernel
theorem d_Mo_match_520 : decode m_Mo_match.2.1 520 = .ok (.iload 9, 2) := by decide +kernel
theorem d_Mo_match_522 : decode m_Mo_match.2.1 522 = .ok (.iconst 2, 1) := by decide +kernel
theorem d_Mo_match_523 : decode m_Mo_match.2.1 523 = .ok (.iadd, 1) := by decide +kernel
theorem d_Mo_match_524 : decode m_Mo_match.2.1 524 = .ok (.iaload, 1) := by decide +kernel
theorem d_Mo_match_525 : decode m_Mo_match.2.1 525 = .ok (.istore 4, 2) := by decide +kernel
theorem d_Mo_match_527 : decode m_Mo_match.2.1 527 = .ok (.iconst 0, 1) := by decide +kernel
theorem d_Mo_match_528 : decode m_Mo_match.2.1 528 = .ok (.istore 10, 2) := by decide +kernel
theorem d_Mo_match_530 : decode m_Mo_match.2.1 530 = .ok (.iload 10, 2) := by decide +kernel
theorem d_Mo_match_532 : decode m_Mo_match.2.1 532 = .ok (.bipush (6), 2) := by decide +kernel
theorem d_Mo_match_534 : decode m_Mo_match.2.1 534 = .ok (.if_icmp .ge (28), 3) := by decide +kernel
theorem d_Mo_match_537 : decode m_Mo_match.2.1 537 = .ok (.aload_n 0, 1) := by decide +kernel
theorem d_Mo_match_538 : decode m_Mo_match.2.1 538 = .ok (.getfield 65, 3) := by decide +kernel
theorem d_Mo_match_541 : decode m_Mo_match.2.1 541 = .ok (.iload 10, 2) := by decide +kernel
theorem d_Mo_match_543 : decode m_Mo_match.2.1 543 = .ok (.aload_n 0, 1) := by decide +kernel
theorem d_Mo_match_544 : decode m_Mo_match.2.1 544 = .ok (.getfield 68, 3) := by decide +kernel
theorem d_Mo_match_547 : decode m_Mo_match.2.1 547 = .ok (.iload 9, 2) := by decide +kernel
theorem d_Mo_match_549 : decode m_Mo_match.2.1 549 = .ok (.iconst 3, 1) := by decide +kernel
theorem d_Mo_match_550 : decode m_Mo_match.2.1 550 = .ok (.iadd, 1) := by decide +kernel
theorem d_Mo_match_551 : decode m_Mo_match.2.1 551 = .ok (.iload 10, 2) := by decide +kernel
theorem d_Mo_match_553 : decode m_Mo_match.2.1 553 = .ok (.iadd, 1) := by decide +kernel
theorem d_Mo_match_554 : decode m_Mo_match.2.1 554 = .ok (.iaload, 1) := by decide +kernel
theorem d_Mo_match_555 : decode m_Mo_match.2.1 555 = .ok (.iastore, 1) := by decide +kernel
theorem d_Mo_match_556 : decode m_Mo_match.2.1 556 = .ok (.iinc 10 (1), 3) := by decide +kernel
theorem d_Mo_match_559 : decode m_Mo_match.2.1 559 = .ok (.goto (-29), 3) := by decide +kernel
theorem d_Mo_match_562 : decode m_Mo_match.2.1 562 = .ok (.iinc 7 (1), 3) := by decide +kernel
theorem d_Mo_match_565 : decode m_Mo_match.2.1 565 = .ok (.goto (-502), 3) := by decide +kernel
theorem d_Mo_match_568 : decode m_Mo_match.2.1 568 = .ok (.aload_n 0, 1) := by decide +kernel
theorem d_Mo_match_569 : decode m_Mo_match.2.1 569 = .ok (.iload 4, 2) := by decide +kernel
theorem d_Mo_match_571 : decode m_Mo_match.2.1 571 = .ok (.putfield 191, 3) := by decide +kernel
theorem d_Mo_match_574 : decode m_Mo_match.2.1 574 = .ok (.return_, 1) := by decide +kernel
theorem d_Mo_search_0 : decode m_Mo_search.2.1 0 = .ok (.aload_n 0, 1) := by decide +kernel
theorem d_Mo_search_1 : decode m_Mo_search.2.1 1 = .ok (.iconst 0, 1) := by decide +kernel
theorem d_Mo_search_2 : decode m_Mo_search.2.1 2 = .ok (.putfield 166, 3) := by decide +kernel
theorem d_Mo_search_5 : decode m_Mo_search.2.1 5 = .ok (.aload_n 0, 1) := by decide +kernel
theorem d_Mo_search_6 : decode m_Mo_search.2.1 6 = .ok (.iconst 0, 1) := by decide +kernel
theorem d_Mo_search_7 : decode m_Mo_search.2.1 7 = .ok (.putfield 169, 3) := by decide +kernel
theorem d_Mo_search_10 : decode m_Mo_search.2.1 10 = .ok (.aload_n 0, 1) := by decide +kernel
theorem d_Mo_search_11 : decode m_Mo_search.2.1 11 = .ok (.iconst (-1), 1) := by decide +kernel
theorem d_Mo_search_12 : decode m_Mo_search.2.1 12 = .ok (.putfield 194, 3) := by decide +kernel
theorem d_Mo_search_15 : decode m_Mo_search.2.1 15 = .ok (.iload_n 3, 1) := by decide +kernel
theorem d_Mo_search_16 : decode m_Mo_search.2.1 16 = .ok (.istore 4, 2) := by decide +kernel
theorem d_Mo_search_18 : decode m_Mo_search.2.1 18 = .ok (.iload 4, 2) := by decide +kernel
theorem d_Mo_search_20 : decode m_Mo_search.2.1 20 = .ok (.aload_n 0, 1) := by decide +kernel
theorem d_Mo_search_21 : decode m_Mo_search.2.1 21 = .ok (.getfield 77, 3) := by decide +kernel
theorem d_Mo_search_24 : decode m_Mo_search.2.1 24 = .ok (.iload_n 2, 1) := by decide +kernel
theorem d_Mo_search_25 : decode m_Mo_search.2.1 25 = .ok (.iaload, 1) := by decide +kernel
theorem d_Mo_search_26 : decode m_Mo_search.2.1 26 = .ok (.if_icmp .gt (48), 3) := by decide +kernel
theorem d_Mo_search_29 : decode m_Mo_search.2.1 29 = .ok (.aload_n 0, 1) := by decide +kernel
theorem d_Mo_search_30 : decode m_Mo_search.2.1 30 = .ok (.getfield 194, 3) := by decide +kernel
theorem d_Mo_search_33 : decode m_Mo_search.2.1 33 = .ok (.ifCond .ge (41), 3) := by decide +kernel
theorem d_Mo_search_36 : decode m_Mo_search.2.1 36 = .ok (.aload_n 0, 1) := by decide +kernel
theorem d_Mo_search_37 : decode m_Mo_search.2.1 37 = .ok (.getfield 169, 3) := by decide +kernel
theorem d_Mo_search_40 : decode m_Mo_search.2.1 40 = .ok (.ifCond .ne (34), 3) := by decide +kernel
theorem d_Mo_search_43 : decode m_Mo_search.2.1 43 = .ok (.aload_n 0, 1) := by decide +kernel
theorem d_Mo_search_44 : decode m_Mo_search.2.1 44 = .ok (.iload_n 1, 1) := by decide +kernel
theorem d_Mo_search_45 : decode m_Mo_search.2.1 45 = .ok (.iload_n 2, 1) := by decide +kernel
theorem d_Mo_search_46 : decode m_Mo_search.2.1 46 = .ok (.iload 4, 2) := by decide +kernel
theorem d_Mo_search_48 : decode m_Mo_search.2.1 48 = .ok (.invokevirtual 197, 3) := by decide +kernel
theorem d_Mo_search_51 : decode m_Mo_search.2.1 51 = .ok (.aload_n 0, 1) := by decide +kernel
theorem d_Mo_search_52 : decode m_Mo_search.2.1 52 = .ok (.aload_n 0, 1) := by decide +kernel
theorem d_Mo_search_53 : decode m_Mo_search.2.1 53 = .ok (.getfield 191, 3) := by decide +kernel
theorem d_Mo_search_56 : decode m_Mo_search.2.1 56 = .ok (.ifCond .lt (8), 3) := by decide +kernel
theorem d_Mo_search_59 : decode m_Mo_search.2.1 59 = .ok (.iload 4, 2) := by decide +kernel
theorem d_Mo_search_61 : decode m_Mo_search.2.1 61 = .ok (.goto (4), 3) := by decide +kernel
theorem d_Mo_search_64 : decode m_Mo_search.2.1 64 = .ok (.iconst (-1), 1) := by decide +kernel
theorem d_Mo_search_65 : decode m_Mo_search.2.1 65 = .ok (.putfield 194, 3) := by decide +kernel
theorem d_Mo_search_68 : decode m_Mo_search.2.1 68 = .ok (.iinc 4 (1), 3) := by decide +kernel
theorem d_Mo_search_71 : decode m_Mo_search.2.1 71 = .ok (.goto (-53), 3) := by decide +kernel
theorem d_Mo_search_74 : decode m_Mo_search.2.1 74 = .ok (.return_, 1) := by decide +kernel
theorem d_Mo_copyState_0 : decode m_Mo_copyState.2.1 0 = .ok (.aload_n 0, 1) := by decide +kernel
theorem d_Mo_copyState_1 : decode m_Mo_copyState.2.1 1 = .ok (.getfield 98, 3) := by decide +kernel
theorem d_Mo_copyState_4 : decode m_Mo_copyState.2.1 4 = .ok (.iload_n 2, 1) := by decide +kernel
theorem d_Mo_copyState_5 : decode m_Mo_copyState.2.1 5 = .ok (.aload_n 0, 1) := by decide +kernel
theorem d_Mo_copyState_6 : decode m_Mo_copyState.2.1 6 = .ok (.getfield 98, 3) := by decide +kernel
theorem d_Mo_copyState_9 : decode m_Mo_copyState.2.1 9 = .ok (.iload_n 1, 1) := by decide +kernel
theorem d_Mo_copyState_10 : decode m_Mo_copyState.2.1 10 = .ok (.iaload, 1) := by decide +kernel
theorem d_Mo_copyState_11 : decode m_Mo_copyState.2.1 11 = .ok (.iastore, 1) := by decide +kernel
theorem d_Mo_copyState_12 : decode m_Mo_copyState.2.1 12 = .ok (.iconst 0, 1) := by decide +kernel
theorem d_Mo_copyState_13 : decode m_Mo_copyState.2.1 13 = .ok (.istore_n 3, 1) := by decide +kernel
theorem d_Mo_copyState_14 : decode m_Mo_copyState.2.1 14 = .ok (.iload_n 3, 1) := by decide +kernel
theorem d_Mo_copyState_15 : decode m_Mo_copyState.2.1 15 = .ok (.iconst 5, 1) := by decide +kernel
theorem d_Mo_copyState_16 : decode m_Mo_copyState.2.1 16 = .ok (.if_icmp .ge (29), 3) := by decide +kernel
theorem d_Mo_copyState_19 : decode m_Mo_copyState.2.1 19 = .ok (.aload_n 0, 1) := by decide +kernel
theorem d_Mo_copyState_20 : decode m_Mo_copyState.2.1 20 = .ok (.getfield 101, 3) := by decide +kernel
theorem d_Mo_copyState_23 : decode m_Mo_copyState.2.1 23 = .ok (.iconst 5, 1) := by decide +kernel
theorem d_Mo_copyState_24 : decode m_Mo_copyState.2.1 24 = .ok (.iload_n 2, 1) := by decide +kernel
theorem d_Mo_copyState_25 : decode m_Mo_copyState.2.1 25 = .ok (.imul, 1) := by decide +kernel
theorem d_Mo_copyState_26 : decode m_Mo_copyState.2.1 26 = .ok (.iload_n 3, 1) := by decide +kernel
theorem d_Mo_copyState_27 : decode m_Mo_copyState.2.1 27 = .ok (.iadd, 1) := by decide +kernel
theorem d_Mo_copyState_28 : decode m_Mo_copyState.2.1 28 = .ok (.aload_n 0, 1) := by decide +kernel
theorem d_Mo_copyState_29 : decode m_Mo_copyState.2.1 29 = .ok (.getfield 101, 3) := by decide +kernel
theorem d_Mo_copyState_32 : decode m_Mo_copyState.2.1 32 = .ok (.iconst 5, 1) := by decide +kernel
theorem d_Mo_copyState_33 : decode m_Mo_copyState.2.1 33 = .ok (.iload_n 1, 1) := by decide +kernel
theorem d_Mo_copyState_34 : decode m_Mo_copyState.2.1 34 = .ok (.imul, 1) := by decide +kernel
theorem d_Mo_copyState_35 : decode m_Mo_copyState.2.1 35 = .ok (.iload_n 3, 1) := by decide +kernel
theorem d_Mo_copyState_36 : decode m_Mo_copyState.2.1 36 = .ok (.iadd, 1) := by decide +kernel
theorem d_Mo_copyState_37 : decode m_Mo_copyState.2.1 37 = .ok (.iaload, 1) := by decide +kernel
theorem d_Mo_copyState_38 : decode m_Mo_copyState.2.1 38 = .ok (.iastore, 1) := by decide +kernel
theorem d_Mo_copyState_39 : decode m_Mo_copyState.2.1 39 = .ok (.iinc 3 (1), 3) := by decide +kernel
theorem d_Mo_copyState_42 : decode m_Mo_copyState.2.1 42 = .ok (.goto (-28), 3) := by decide +kernel
theorem d_Mo_copyState_45 : decode m_Mo_copyState.2.1 45 = .ok (.iconst 0, 1) := by decide +kernel
theorem d_Mo_copyState_46 : decode m_Mo_copyState.2.1 46 = .ok (.istore_n 3, 1) := by decide +kernel
theorem d_Mo_copyState_47 : decode m_Mo_copyState.2.1 47 = .ok (.iload_n 3, 1) := by decide +kernel
theorem d_Mo_copyState_48 : decode m_Mo_copyState.2.1 48 = .ok (.bipush (10), 2) := by decide +kernel
theorem d_Mo_copyState_50 : decode m_Mo_copyState.2.1 50 = .ok (.if_icmp .ge (83), 3) := by decide +kernel
theorem d_Mo_copyState_53 : decode m_Mo_copyState.2.1 53 = .ok (.aload_n 0, 1) := by decide +kernel
theorem d_Mo_copyState_54 : decode m_Mo_copyState.2.1 54 = .ok (.getfield 104, 3) := by decide +kernel
theorem d_Mo_copyState_57 : decode m_Mo_copyState.2.1 57 = .ok (.bipush (10), 2) := by decide +kernel
theorem d_Mo_copyState_59 : decode m_Mo_copyState.2.1 59 = .ok (.iload_n 2, 1) := by decide +kernel
theorem d_Mo_copyState_60 : decode m_Mo_copyState.2.1 60 = .ok (.imul, 1) := by decide +kernel
theorem d_Mo_copyState_61 : decode m_Mo_copyState.2.1 61 = .ok (.iload_n 3, 1) := by decide +kernel
theorem d_Mo_copyState_62 : decode m_Mo_copyState.2.1 62 = .ok (.iadd, 1) := by decide +kernel
theorem d_Mo_copyState_63 : decode m_Mo_copyState.2.1 63 = .ok (.aload_n 0, 1) := by decide +kernel
theorem d_Mo_copyState_64 : decode m_Mo_copyState.2.1 64 = .ok (.getfield 104, 3) := by decide +kernel
theorem d_Mo_copyState_67 : decode m_Mo_copyState.2.1 67 = .ok (.bipush (10), 2) := by decide +kernel
theorem d_Mo_copyState_69 : decode m_Mo_copyState.2.1 69 = .ok (.iload_n 1, 1) := by decide +kernel
theorem d_Mo_copyState_70 : decode m_Mo_copyState.2.1 70 = .ok (.imul, 1) := by decide +kernel
theorem d_Mo_copyState_71 : decode m_Mo_copyState.2.1 71 = .ok (.iload_n 3, 1) := by decide +kernel
theorem d_Mo_copyState_72 : decode m_Mo_copyState.2.1 72 = .ok (.iadd, 1) := by decide +kernel
theorem d_Mo_copyState_73 : decode m_Mo_copyState.2.1 73 = .ok (.iaload, 1) := by decide +kernel
theorem d_Mo_copyState_74 : decode m_Mo_copyState.2.1 74 = .ok (.iastore, 1) := by decide +kernel
theorem d_Mo_copyState_75 : decode m_Mo_copyState.2.1 75 = .ok (.iconst 0, 1) := by decide +kernel
theorem d_Mo_copyState_76 : decode m_Mo_copyState.2.1 76 = .ok (.istore 4, 2) := by decide +kernel
theorem d_Mo_copyState_78 : decode m_Mo_copyState.2.1 78 = .ok (.iload 4, 2) := by decide +kernel
theorem d_Mo_copyState_80 : decode m_Mo_copyState.2.1 80 = .ok (.bipush (24), 2) := by decide +kernel
theorem d_Mo_copyState_82 : decode m_Mo_copyState.2.1 82 = .ok (.if_icmp .ge (45), 3) := by decide +kernel
theorem d_Mo_copyState_85 : decode m_Mo_copyState.2.1 85 = .ok (.aload_n 0, 1) := by decide +kernel
theorem d_Mo_copyState_86 : decode m_Mo_copyState.2.1 86 = .ok (.getfield 107, 3) := by decide +kernel
theorem d_Mo_copyState_89 : decode m_Mo_copyState.2.1 89 = .ok (.sipush (240), 3) := by decide +kernel
theorem d_Mo_copyState_92 : decode m_Mo_copyState.2.1 92 = .ok (.iload_n 2, 1) := by decide +kernel
theorem d_Mo_copyState_93 : decode m_Mo_copyState.2.1 93 = .ok (.imul, 1) := by decide +kernel
theorem d_Mo_copyState_94 : decode m_Mo_copyState.2.1 94 = .ok (.bipush (24), 2) := by decide +kernel
theorem d_Mo_copyState_96 : decode m_Mo_copyState.2.1 96 = .ok (.iload_n 3, 1) := by decide +kernel
theorem d_Mo_copyState_97 : decode m_Mo_copyState.2.1 97 = .ok (.imul, 1) := by decide +kernel
theorem d_Mo_copyState_98 : decode m_Mo_copyState.2.1 98 = .ok (.iadd, 1) := by decide +kernel
theorem d_Mo_copyState_99 : decode m_Mo_copyState.2.1 99 = .ok (.iload 4, 2) := by decide +kernel
theorem d_Mo_copyState_101 : decode m_Mo_copyState.2.1 101 = .ok (.iadd, 1) := by decide +kernel
theorem d_Mo_copyState_102 : decode m_Mo_copyState.2.1 102 = .ok (.aload_n 0, 1) := by decide +kernel
theorem d_Mo_copyState_103 : decode m_Mo_copyState.2.1 103 = .ok (.getfield 107, 3) := by decide +kernel
theorem d_Mo_copyState_106 : decode m_Mo_copyState.2.1 106 = .ok (.sipush (240), 3) := by decide +kernel
theorem d_Mo_copyState_109 : decode m_Mo_copyState.2.1 109 = .ok (.iload_n 1, 1) := by decide +kernel
theorem d_Mo_copyState_110 : decode m_Mo_copyState.2.1 110 = .ok (.imul, 1) := by decide +kernel
theorem d_Mo_copyState_111 : decode m_Mo_copyState.2.1 111 = .ok (.bipush (24), 2) := by decide +kernel
theorem d_Mo_copyState_113 : decode m_Mo_copyState.2.1 113 = .ok (.iload_n 3, 1) := by decide +kernel
theorem d_Mo_copyState_114 : decode m_Mo_copyState.2.1 114 = .ok (.imul, 1) := by decide +kernel
theorem d_Mo_copyState_115 : decode m_Mo_copyState.2.1 115 = .ok (.iadd, 1) := by decide +kernel
theorem d_Mo_copyState_116 : decode m_Mo_copyState.2.1 116 = .ok (.iload 4, 2) := by decide +kernel
theorem d_Mo_copyState_118 : decode m_Mo_copyState.2.1 118 = .ok (.iadd, 1) := by decide +kernel
theorem d_Mo_copyState_119 : decode m_Mo_copyState.2.1 119 = .ok (.iaload, 1) := by decide +kernel
theorem d_Mo_copyState_120 : decode m_Mo_copyState.2.1 120 = .ok (.iastore, 1) := by decide +kernel
theorem d_Mo_copyState_121 : decode m_Mo_copyState.2.1 121 = .ok (.iinc 4 (1), 3) := by decide +kernel
theorem d_Mo_copyState_124 : decode m_Mo_copyState.2.1 124 = .ok (.goto (-46), 3) := by decide +kernel
theorem d_Mo_copyState_127 : decode m_Mo_copyState.2.1 127 = .ok (.iinc 3 (1), 3) := by decide +kernel
theorem d_Mo_copyState_130 : decode m_Mo_copyState.2.1 130 = .ok (.goto (-83), 3) := by decide +kernel
theorem d_Mo_copyState_133 : decode m_Mo_copyState.2.1 133 = .ok (.return_, 1) := by decide +kernel
theorem d_Mo_sameState_0 : decode m_Mo_sameState.2.1 0 = .ok (.aload_n 0, 1) := by decide +kernel
theorem d_Mo_sameState_1 : decode m_Mo_sameState.2.1 1 = .ok (.getfield 98, 3) := by decide +kernel
theorem d_Mo_sameState_4 : decode m_Mo_sameState.2.1 4 = .ok (.iload_n 1, 1) := by decide +kernel
theorem d_Mo_sameState_5 : decode m_Mo_sameState.2.1 5 = .ok (.iaload, 1) := by decide +kernel
theorem d_Mo_sameState_6 : decode m_Mo_sameState.2.1 6 = .ok (.aload_n 0, 1) := by decide +kernel
theorem d_Mo_sameState_7 : decode m_Mo_sameState.2.1 7 = .ok (.getfield 98, 3) := by decide +kernel
theorem d_Mo_sameState_10 : decode m_Mo_sameState.2.1 10 = .ok (.iload_n 2, 1) := by decide +kernel
theorem d_Mo_sameState_11 : decode m_Mo_sameState.2.1 11 = .ok (.iaload, 1) := by decide +kernel
theorem d_Mo_sameState_12 : decode m_Mo_sameState.2.1 12 = .ok (.if_icmp .eq (5), 3) := by decide +kernel
theorem d_Mo_sameState_15 : decode m_Mo_sameState.2.1 15 = .ok (.iconst 0, 1) := by decide +kernel
theorem d_Mo_sameState_16 : decode m_Mo_sameState.2.1 16 = .ok (.ireturn, 1) := by decide +kernel
theorem d_Mo_sameState_17 : decode m_Mo_sameState.2.1 17 = .ok (.iconst 0, 1) := by decide +kernel
theorem d_Mo_sameState_18 : decode m_Mo_sameState.2.1 18 = .ok (.istore_n 3, 1) := by decide +kernel
theorem d_Mo_sameState_19 : decode m_Mo_sameState.2.1 19 = .ok (.iload_n 3, 1) := by decide +kernel
theorem d_Mo_sameState_20 : decode m_Mo_sameState.2.1 20 = .ok (.iconst 2, 1) := by decide +kernel
theorem d_Mo_sameState_21 : decode m_Mo_sameState.2.1 21 = .ok (.aload_n 0, 1) := by decide +kernel
theorem d_Mo_sameState_22 : decode m_Mo_sameState.2.1 22 = .ok (.getfield 98, 3) := by decide +kernel
theorem d_Mo_sameState_25 : decode m_Mo_sameState.2.1 25 = .ok (.iload_n 1, 1) := by decide +kernel
theorem d_Mo_sameState_26 : decode m_Mo_sameState.2.1 26 = .ok (.iaload, 1) := by decide +kernel
theorem d_Mo_sameState_27 : decode m_Mo_sameState.2.1 27 = .ok (.imul, 1) := by decide +kernel
theorem d_Mo_sameState_28 : decode m_Mo_sameState.2.1 28 = .ok (.if_icmp .ge (124), 3) := by decide +kernel
theorem d_Mo_sameState_31 : decode m_Mo_sameState.2.1 31 = .ok (.aload_n 0, 1) := by decide +kernel
theorem d_Mo_sameState_32 : decode m_Mo_sameState.2.1 32 = .ok (.getfield 104, 3) := by decide +kernel
theorem d_Mo_sameState_35 : decode m_Mo_sameState.2.1 35 = .ok (.bipush (10), 2) := by decide +kernel
theorem d_Mo_sameState_37 : decode m_Mo_sameState.2.1 37 = .ok (.iload_n 1, 1) := by decide +kernel
theorem d_Mo_sameState_38 : decode m_Mo_sameState.2.1 38 = .ok (.imul, 1) := by decide +kernel
theorem d_Mo_sameState_39 : decode m_Mo_sameState.2.1 39 = .ok (.iload_n 3, 1) := by decide +kernel
theorem d_Mo_sameState_40 : decode m_Mo_sameState.2.1 40 = .ok (.iadd, 1) := by decide +kernel
theorem d_Mo_sameState_41 : decode m_Mo_sameState.2.1 41 = .ok (.iaload, 1) := by decide +kernel
theorem d_Mo_sameState_42 : decode m_Mo_sameState.2.1 42 = .ok (.istore 4, 2) := by decide +kernel
theorem d_Mo_sameState_44 : decode m_Mo_sameState.2.1 44 = .ok (.aload_n 0, 1) := by decide +kernel
theorem d_Mo_sameState_45 : decode m_Mo_sameState.2.1 45 = .ok (.getfield 101, 3) := by decide +kernel
theorem d_Mo_sameState_48 : decode m_Mo_sameState.2.1 48 = .ok (.iconst 5, 1) := by decide +kernel
theorem d_Mo_sameState_49 : decode m_Mo_sameState.2.1 49 = .ok (.iload_n 1, 1) := by decide +kernel
theorem d_Mo_sameState_50 : decode m_Mo_sameState.2.1 50 = .ok (.imul, 1) := by decide +kernel
theorem d_Mo_sameState_51 : decode m_Mo_sameState.2.1 51 = .ok (.iload_n 3, 1) := by decide +kernel
theorem d_Mo_sameState_52 : decode m_Mo_sameState.2.1 52 = .ok (.iconst 2, 1) := by decide +kernel
theorem d_Mo_sameState_53 : decode m_Mo_sameState.2.1 53 = .ok (.idiv, 1) := by decide +kernel
theorem d_Mo_sameState_54 : decode m_Mo_sameState.2.1 54 = .ok (.iadd, 1) := by decide +kernel
theorem d_Mo_sameState_55 : decode m_Mo_sameState.2.1 55 = .ok (.iaload, 1) := by decide +kernel
theorem d_Mo_sameState_56 : decode m_Mo_sameState.2.1 56 = .ok (.aload_n 0, 1) := by decide +kernel
theorem d_Mo_sameState_57 : decode m_Mo_sameState.2.1 57 = .ok (.getfield 101, 3) := by decide +kernel
theorem d_Mo_sameState_60 : decode m_Mo_sameState.2.1 60 = .ok (.iconst 5, 1) := by decide +kernel
theorem d_Mo_sameState_61 : decode m_Mo_sameState.2.1 61 = .ok (.iload_n 2, 1) := by decide +kernel
theorem d_Mo_sameState_62 : decode m_Mo_sameState.2.1 62 = .ok (.imul, 1) := by decide +kernel
theorem d_Mo_sameState_63 : decode m_Mo_sameState.2.1 63 = .ok (.iload_n 3, 1) := by decide +kernel
theorem d_Mo_sameState_64 : decode m_Mo_sameState.2.1 64 = .ok (.iconst 2, 1) := by decide +kernel
theorem d_Mo_sameState_65 : decode m_Mo_sameState.2.1 65 = .ok (.idiv, 1) := by decide +kernel
theorem d_Mo_sameState_66 : decode m_Mo_sameState.2.1 66 = .ok (.iadd, 1) := by decide +kernel
theorem d_Mo_sameState_67 : decode m_Mo_sameState.2.1 67 = .ok (.iaload, 1) := by decide +kernel
theorem d_Mo_sameState_68 : decode m_Mo_sameState.2.1 68 = .ok (.if_icmp .ne (19), 3) := by decide +kernel
theorem d_Mo_sameState_71 : decode m_Mo_sameState.2.1 71 = .ok (.iload 4, 2) := by decide +kernel
theorem d_Mo_sameState_73 : decode m_Mo_sameState.2.1 73 = .ok (.aload_n 0, 1) := by decide +kernel
theorem d_Mo_sameState_74 : decode m_Mo_sameState.2.1 74 = .ok (.getfield 104, 3) := by decide +kernel
theorem d_Mo_sameState_77 : decode m_Mo_sameState.2.1 77 = .ok (.bipush (10), 2) := by decide +kernel
theorem d_Mo_sameState_79 : decode m_Mo_sameState.2.1 79 = .ok (.iload_n 2, 1) := by decide +kernel
theorem d_Mo_sameState_80 : decode m_Mo_sameState.2.1 80 = .ok (.imul, 1) := by decide +kernel
theorem d_Mo_sameState_81 : decode m_Mo_sameState.2.1 81 = .ok (.iload_n 3, 1) := by decide +kernel
theorem d_Mo_sameState_82 : decode m_Mo_sameState.2.1 82 = .ok (.iadd, 1) := by decide +kernel
theorem d_Mo_sameState_83 : decode m_Mo_sameState.2.1 83 = .ok (.iaload, 1) := by decide +kernel
theorem d_Mo_sameState_84 : decode m_Mo_sameState.2.1 84 = .ok (.if_icmp .eq (5), 3) := by decide +kernel
theorem d_Mo_sameState_87 : decode m_Mo_sameState.2.1 87 = .ok (.iconst 0, 1) := by decide +kernel
theorem d_Mo_sameState_88 : decode m_Mo_sameState.2.1 88 = .ok (.ireturn, 1) := by decide +kernel
theorem d_Mo_sameState_89 : decode m_Mo_sameState.2.1 89 = .ok (.iconst 0, 1) := by decide +kernel
theorem d_Mo_sameState_90 : decode m_Mo_sameState.2.1 90 = .ok (.istore 5, 2) := by decide +kernel
theorem d_Mo_sameState_92 : decode m_Mo_sameState.2.1 92 = .ok (.iload 5, 2) := by decide +kernel
theorem d_Mo_sameState_94 : decode m_Mo_sameState.2.1 94 = .ok (.iload 4, 2) := by decide +kernel
theorem d_Mo_sameState_96 : decode m_Mo_sameState.2.1 96 = .ok (.if_icmp .ge (50), 3) := by decide +kernel
theorem d_Mo_sameState_99 : decode m_Mo_sameState.2.1 99 = .ok (.aload_n 0, 1) := by decide +kernel
theorem d_Mo_sameState_100 : decode m_Mo_sameState.2.1 100 = .ok (.getfield 107, 3) := by decide +kernel
theorem d_Mo_sameState_103 : decode m_Mo_sameState.2.1 103 = .ok (.sipush (240), 3) := by decide +kernel
theorem d_Mo_sameState_106 : decode m_Mo_sameState.2.1 106 = .ok (.iload_n 1, 1) := by decide +kernel
theorem d_Mo_sameState_107 : decode m_Mo_sameState.2.1 107 = .ok (.imul, 1) := by decide +kernel
theorem d_Mo_sameState_108 : decode m_Mo_sameState.2.1 108 = .ok (.bipush (24), 2) := by decide +kernel
theorem d_Mo_sameState_110 : decode m_Mo_sameState.2.1 110 = .ok (.iload_n 3, 1) := by decide +kernel
theorem d_Mo_sameState_111 : decode m_Mo_sameState.2.1 111 = .ok (.imul, 1) := by decide +kernel
theorem d_Mo_sameState_112 : decode m_Mo_sameState.2.1 112 = .ok (.iadd, 1) := by decide +kernel
theorem d_Mo_sameState_113 : decode m_Mo_sameState.2.1 113 = .ok (.iload 5, 2) := by decide +kernel
theorem d_Mo_sameState_115 : decode m_Mo_sameState.2.1 115 = .ok (.iadd, 1) := by decide +kernel
theorem d_Mo_sameState_116 : decode m_Mo_sameState.2.1 116 = .ok (.iaload, 1) := by decide +kernel
theorem d_Mo_sameState_117 : decode m_Mo_sameState.2.1 117 = .ok (.aload_n 0, 1) := by decide +kernel
theorem d_Mo_sameState_118 : decode m_Mo_sameState.2.1 118 = .ok (.getfield 107, 3) := by decide +kernel
theorem d_Mo_sameState_121 : decode m_Mo_sameState.2.1 121 = .ok (.sipush (240), 3) := by decide +kernel
theorem d_Mo_sameState_124 : decode m_Mo_sameState.2.1 124 = .ok (.iload_n 2, 1) := by decide +kernel
theorem d_Mo_sameState_125 : decode m_Mo_sameState.2.1 125 = .ok (.imul, 1) := by decide +kernel
theorem d_Mo_sameState_126 : decode m_Mo_sameState.2.1 126 = .ok (.bipush (24), 2) := by decide +kernel
theorem d_Mo_sameState_128 : decode m_Mo_sameState.2.1 128 = .ok (.iload_n 3, 1) := by decide +kernel
theorem d_Mo_sameState_129 : decode m_Mo_sameState.2.1 129 = .ok (.imul, 1) := by decide +kernel
theorem d_Mo_sameState_130 : decode m_Mo_sameState.2.1 130 = .ok (.iadd, 1) := by decide +kernel
theorem d_Mo_sameState_131 : decode m_Mo_sameState.2.1 131 = .ok (.iload 5, 2) := by decide +kernel
theorem d_Mo_sameState_133 : decode m_Mo_sameState.2.1 133 = .ok (.iadd, 1) := by decide +kernel
theorem d_Mo_sameState_134 : decode m_Mo_sameState.2.1 134 = .ok (.iaload, 1) := by decide +kernel
theorem d_Mo_sameState_135 : decode m_Mo_sameState.2.1 135 = .ok (.if_icmp .eq (5), 3) := by decide +kernel
theorem d_Mo_sameState_138 : decode m_Mo_sameState.2.1 138 = .ok (.iconst 0, 1) := by decide +kernel
theorem d_Mo_sameState_139 : decode m_Mo_sameState.2.1 139 = .ok (.ireturn, 1) := by decide +kernel
theorem d_Mo_sameState_140 : decode m_Mo_sameState.2.1 140 = .ok (.iinc 5 (1), 3) := by decide +kernel
theorem d_Mo_sameState_143 : decode m_Mo_sameState.2.1 143 = .ok (.goto (-51), 3) := by decide +kernel
theorem d_Mo_sameState_146 : decode m_Mo_sameState.2.1 146 = .ok (.iinc 3 (1), 3) := by decide +kernel
theorem d_Mo_sameState_149 : decode m_Mo_sameState.2.1 149 = .ok (.goto (-130), 3) := by decide +kernel
theorem d_Mo_sameState_152 : decode m_Mo_sameState.2.1 152 = .ok (.iconst 1, 1) := by decide +kernel
theorem d_Mo_sameState_153 : decode m_Mo_sameState.2.1 153 = .ok (.ireturn, 1) := by decide +kernel
theorem d_Mo_begin_0 : decode m_Mo_begin.2.1 0 = .ok (.iload_n 1, 1) := by decide +kernel
theorem d_Mo_begin_1 : decode m_Mo_begin.2.1 1 = .ok (.ifCond .ne (14), 3) := by decide +kernel
theorem d_Mo_begin_4 : decode m_Mo_begin.2.1 4 = .ok (.aload_n 0, 1) := by decide +kernel
theorem d_Mo_begin_5 : decode m_Mo_begin.2.1 5 = .ok (.getfield 98, 3) := by decide +kernel
theorem d_Mo_begin_8 : decode m_Mo_begin.2.1 8 = .ok (.bipush (6), 2) := by decide +kernel
theorem d_Mo_begin_10 : decode m_Mo_begin.2.1 10 = .ok (.iconst 0, 1) := by decide +kernel
theorem d_Mo_begin_11 : decode m_Mo_begin.2.1 11 = .ok (.iastore, 1) := by decide +kernel
theorem d_Mo_begin_12 : decode m_Mo_begin.2.1 12 = .ok (.goto (12), 3) := by decide +kernel
theorem d_Mo_begin_15 : decode m_Mo_begin.2.1 15 = .ok (.aload_n 0, 1) := by decide +kernel
theorem d_Mo_begin_16 : decode m_Mo_begin.2.1 16 = .ok (.iload_n 1, 1) := by decide +kernel
theorem d_Mo_begin_17 : decode m_Mo_begin.2.1 17 = .ok (.iconst 1, 1) := by decide +kernel
theorem d_Mo_begin_18 : decode m_Mo_begin.2.1 18 = .ok (.isub, 1) := by decide +kernel
theorem d_Mo_begin_19 : decode m_Mo_begin.2.1 19 = .ok (.bipush (6), 2) := by decide +kernel
theorem d_Mo_begin_21 : decode m_Mo_begin.2.1 21 = .ok (.invokevirtual 200, 3) := by decide +kernel
theorem d_Mo_begin_24 : decode m_Mo_begin.2.1 24 = .ok (.return_, 1) := by decide +kernel
theorem d_Mo_addRules_0 : decode m_Mo_addRules.2.1 0 = .ok (.iload_n 1, 1) := by decide +kernel
theorem d_Mo_addRules_1 : decode m_Mo_addRules.2.1 1 = .ok (.istore_n 3, 1) := by decide +kernel
theorem d_Mo_addRules_2 : decode m_Mo_addRules.2.1 2 = .ok (.iconst 1, 1) := by decide +kernel
theorem d_Mo_addRules_3 : decode m_Mo_addRules.2.1 3 = .ok (.istore 4, 2) := by decide +kernel
theorem d_Mo_addRules_5 : decode m_Mo_addRules.2.1 5 = .ok (.iload 4, 2) := by decide +kernel
theorem d_Mo_addRules_7 : decode m_Mo_addRules.2.1 7 = .ok (.aload_n 0, 1) := by decide +kernel
theorem d_Mo_addRules_8 : decode m_Mo_addRules.2.1 8 = .ok (.getfield 203, 3) := by decide +kernel
theorem d_Mo_addRules_11 : decode m_Mo_addRules.2.1 11 = .ok (.if_icmp .gt (33), 3) := by decide +kernel
theorem d_Mo_addRules_14 : decode m_Mo_addRules.2.1 14 = .ok (.aload_n 0, 1) := by decide +kernel
theorem d_Mo_addRules_15 : decode m_Mo_addRules.2.1 15 = .ok (.getfield 17, 3) := by decide +kernel
theorem d_Mo_addRules_18 : decode m_Mo_addRules.2.1 18 = .ok (.iload 4, 2) := by decide +kernel
theorem d_Mo_addRules_20 : decode m_Mo_addRules.2.1 20 = .ok (.iaload, 1) := by decide +kernel
theorem d_Mo_addRules_21 : decode m_Mo_addRules.2.1 21 = .ok (.iload_n 2, 1) := by decide +kernel
theorem d_Mo_addRules_22 : decode m_Mo_addRules.2.1 22 = .ok (.if_icmp .ne (16), 3) := by decide +kernel
theorem d_Mo_addRules_25 : decode m_Mo_addRules.2.1 25 = .ok (.aload_n 0, 1) := by decide +kernel
theorem d_Mo_addRules_26 : decode m_Mo_addRules.2.1 26 = .ok (.getfield 110, 3) := by decide +kernel
theorem d_Mo_addRules_29 : decode m_Mo_addRules.2.1 29 = .ok (.iload_n 3, 1) := by decide +kernel
theorem d_Mo_addRules_30 : decode m_Mo_addRules.2.1 30 = .ok (.iconst 2, 1) := by decide +kernel
theorem d_Mo_addRules_31 : decode m_Mo_addRules.2.1 31 = .ok (.iload 4, 2) := by decide +kernel
theorem d_Mo_addRules_33 : decode m_Mo_addRules.2.1 33 = .ok (.imul, 1) := by decide +kernel
theorem d_Mo_addRules_34 : decode m_Mo_addRules.2.1 34 = .ok (.iastore, 1) := by decide +kernel
theorem d_Mo_addRules_35 : decode m_Mo_addRules.2.1 35 = .ok (.iinc 3 (1), 3) := by decide +kernel
theorem d_Mo_addRules_38 : decode m_Mo_addRules.2.1 38 = .ok (.iinc 4 (1), 3) := by decide +kernel
theorem d_Mo_addRules_41 : decode m_Mo_addRules.2.1 41 = .ok (.goto (-36), 3) := by decide +kernel
theorem d_Mo_addRules_44 : decode m_Mo_addRules.2.1 44 = .ok (.iload_n 3, 1) := by decide +kernel
theorem d_Mo_addRules_45 : decode m_Mo_addRules.2.1 45 = .ok (.ireturn, 1) := by decide +kernel
theorem d_Mo_gather_0 : decode m_Mo_gather.2.1 0 = .ok (.aload_n 0, 1) := by decide +kernel
theorem d_Mo_gather_1 : decode m_Mo_gather.2.1 1 = .ok (.getfield 98, 3) := by decide +kernel
theorem d_Mo_gather_4 : decode m_Mo_gather.2.1 4 = .ok (.bipush (6), 2) := by decide +kernel
theorem d_Mo_gather_6 : decode m_Mo_gather.2.1 6 = .ok (.iaload, 1) := by decide +kernel
theorem d_Mo_gather_7 : decode m_Mo_gather.2.1 7 = .ok (.ifCond .ne (7), 3) := by decide +kernel
theorem d_Mo_gather_10 : decode m_Mo_gather.2.1 10 = .ok (.iconst 0, 1) := by decide +kernel
theorem d_Mo_gather_11 : decode m_Mo_gather.2.1 11 = .ok (.goto (18), 3) := by decide +kernel
theorem d_Mo_gather_14 : decode m_Mo_gather.2.1 14 = .ok (.aload_n 0, 1) := by decide +kernel
theorem d_Mo_gather_15 : decode m_Mo_gather.2.1 15 = .ok (.getfield 101, 3) := by decide +kernel
theorem d_Mo_gather_18 : decode m_Mo_gather.2.1 18 = .ok (.bipush (29), 2) := by decide +kernel
theorem d_Mo_gather_20 : decode m_Mo_gather.2.1 20 = .ok (.aload_n 0, 1) := by decide +kernel
theorem d_Mo_gather_21 : decode m_Mo_gather.2.1 21 = .ok (.getfield 98, 3) := by decide +kernel
theorem d_Mo_gather_24 : decode m_Mo_gather.2.1 24 = .ok (.bipush (6), 2) := by decide +kernel
theorem d_Mo_gather_26 : decode m_Mo_gather.2.1 26 = .ok (.iaload, 1) := by decide +kernel
theorem d_Mo_gather_27 : decode m_Mo_gather.2.1 27 = .ok (.iadd, 1) := by decide +kernel
theorem d_Mo_gather_28 : decode m_Mo_gather.2.1 28 = .ok (.iaload, 1) := by decide +kernel
theorem d_Mo_gather_29 : decode m_Mo_gather.2.1 29 = .ok (.istore_n 1, 1) := by decide +kernel
theorem d_Mo_gather_30 : decode m_Mo_gather.2.1 30 = .ok (.iconst 0, 1) := by decide +kernel
theorem d_Mo_gather_31 : decode m_Mo_gather.2.1 31 = .ok (.istore_n 2, 1) := by decide +kernel
theorem d_Mo_gather_32 : decode m_Mo_gather.2.1 32 = .ok (.iload_n 1, 1) := by decide +kernel
theorem d_Mo_gather_33 : decode m_Mo_gather.2.1 33 = .ok (.ifCond .le (109), 3) := by decide +kernel
theorem d_Mo_gather_36 : decode m_Mo_gather.2.1 36 = .ok (.aload_n 0, 1) := by decide +kernel
theorem d_Mo_gather_37 : decode m_Mo_gather.2.1 37 = .ok (.getfield 110, 3) := by decide +kernel
theorem d_Mo_gather_40 : decode m_Mo_gather.2.1 40 = .ok (.iconst 0, 1) := by decide +kernel
theorem d_Mo_gather_41 : decode m_Mo_gather.2.1 41 = .ok (.iconst 2, 1) := by decide +kernel
theorem d_Mo_gather_42 : decode m_Mo_gather.2.1 42 = .ok (.iload_n 1, 1) := by decide +kernel
theorem d_Mo_gather_43 : decode m_Mo_gather.2.1 43 = .ok (.imul, 1) := by decide +kernel
theorem d_Mo_gather_44 : decode m_Mo_gather.2.1 44 = .ok (.iconst 1, 1) := by decide +kernel
theorem d_Mo_gather_45 : decode m_Mo_gather.2.1 45 = .ok (.iadd, 1) := by decide +kernel
theorem d_Mo_gather_46 : decode m_Mo_gather.2.1 46 = .ok (.iastore, 1) := by decide +kernel
theorem d_Mo_gather_47 : decode m_Mo_gather.2.1 47 = .ok (.iconst 1, 1) := by decide +kernel
theorem d_Mo_gather_48 : decode m_Mo_gather.2.1 48 = .ok (.istore_n 2, 1) := by decide +kernel
theorem d_Mo_gather_49 : decode m_Mo_gather.2.1 49 = .ok (.iconst 0, 1) := by decide +kernel
theorem d_Mo_gather_50 : decode m_Mo_gather.2.1 50 = .ok (.istore_n 3, 1) := by decide +kernel
theorem d_Mo_gather_51 : decode m_Mo_gather.2.1 51 = .ok (.iload_n 3, 1) := by decide +kernel
theorem d_Mo_gather_52 : decode m_Mo_gather.2.1 52 = .ok (.iconst 2, 1) := by decide +kernel
theorem d_Mo_gather_53 : decode m_Mo_gather.2.1 53 = .ok (.if_icmp .ge (89), 3) := by decide +kernel
theorem d_Mo_gather_56 : decode m_Mo_gather.2.1 56 = .ok (.iconst 2, 1) := by decide +kernel
theorem d_Mo_gather_57 : decode m_Mo_gather.2.1 57 = .ok (.aload_n 0, 1) := by decide +kernel
theorem d_Mo_gather_58 : decode m_Mo_gather.2.1 58 = .ok (.getfield 98, 3) := by decide +kernel
theorem d_Mo_gather_61 : decode m_Mo_gather.2.1 61 = .ok (.bipush (6), 2) := by decide +kernel
theorem d_Mo_gather_63 : decode m_Mo_gather.2.1 63 = .ok (.iaload, 1) := by decide +kernel
theorem d_Mo_gather_64 : decode m_Mo_gather.2.1 64 = .ok (.imul, 1) := by decide +kernel
theorem d_Mo_gather_65 : decode m_Mo_gather.2.1 65 = .ok (.iconst 2, 1) := by decide +kernel
theorem d_Mo_gather_66 : decode m_Mo_gather.2.1 66 = .ok (.isub, 1) := by decide +kernel
theorem d_Mo_gather_67 : decode m_Mo_gather.2.1 67 = .ok (.iload_n 3, 1) := by decide +kernel
theorem d_Mo_gather_68 : decode m_Mo_gather.2.1 68 = .ok (.iadd, 1) := by decide +kernel
theorem d_Mo_gather_69 : decode m_Mo_gather.2.1 69 = .ok (.istore 4, 2) := by decide +kernel
theorem d_Mo_gather_71 : decode m_Mo_gather.2.1 71 = .ok (.aload_n 0, 1) := by decide +kernel
theorem d_Mo_gather_72 : decode m_Mo_gather.2.1 72 = .ok (.getfield 71, 3) := by decide +kernel
theorem d_Mo_gather_75 : decode m_Mo_gather.2.1 75 = .ok (.iload_n 3, 1) := by decide +kernel
theorem d_Mo_gather_76 : decode m_Mo_gather.2.1 76 = .ok (.aload_n 0, 1) := by decide +kernel
theorem d_Mo_gather_77 : decode m_Mo_gather.2.1 77 = .ok (.getfield 104, 3) := by decide +kernel
theorem d_Mo_gather_80 : decode m_Mo_gather.2.1 80 = .ok (.bipush (60), 2) := by decide +kernel
theorem d_Mo_gather_82 : decode m_Mo_gather.2.1 82 = .ok (.iload 4, 2) := by decide +kernel
theorem d_Mo_gather_84 : decode m_Mo_gather.2.1 84 = .ok (.iadd, 1) := by decide +kernel
theorem d_Mo_gather_85 : decode m_Mo_gather.2.1 85 = .ok (.iaload, 1) := by decide +kernel
theorem d_Mo_gather_86 : decode m_Mo_gather.2.1 86 = .ok (.iastore, 1) := by decide +kernel
theorem d_Mo_gather_87 : decode m_Mo_gather.2.1 87 = .ok (.iconst 0, 1) := by decide +kernel
theorem d_Mo_gather_88 : decode m_Mo_gather.2.1 88 = .ok (.istore 5, 2) := by decide +kernel
theorem d_Mo_gather_90 : decode m_Mo_gather.2.1 90 = .ok (.iload 5, 2) := by decide +kernel
theorem d_Mo_gather_92 : decode m_Mo_gather.2.1 92 = .ok (.aload_n 0, 1) := by decide +kernel
theorem d_Mo_gather_93 : decode m_Mo_gather.2.1 93 = .ok (.getfield 71, 3) := by decide +kernel
theorem d_Mo_gather_96 : decode m_Mo_gather.2.1 96 = .ok (.iload_n 3, 1) := by decide +kernel
theorem d_Mo_gather_97 : decode m_Mo_gather.2.1 97 = .ok (.iaload, 1) := by decide +kernel
theorem d_Mo_gather_98 : decode m_Mo_gather.2.1 98 = .ok (.if_icmp .ge (38), 3) := by decide +kernel
theorem d_Mo_gather_101 : decode m_Mo_gather.2.1 101 = .ok (.aload_n 0, 1) := by decide +kernel
theorem d_Mo_gather_102 : decode m_Mo_gather.2.1 102 = .ok (.getfield 74, 3) := by decide +kernel
theorem d_Mo_gather_105 : decode m_Mo_gather.2.1 105 = .ok (.bipush (24), 2) := by decide +kernel
theorem d_Mo_gather_107 : decode m_Mo_gather.2.1 107 = .ok (.iload_n 3, 1) := by decide +kernel
theorem d_Mo_gather_108 : decode m_Mo_gather.2.1 108 = .ok (.imul, 1) := by decide +kernel
theorem d_Mo_gather_109 : decode m_Mo_gather.2.1 109 = .ok (.iload 5, 2) := by decide +kernel
theorem d_Mo_gather_111 : decode m_Mo_gather.2.1 111 = .ok (.iadd, 1) := by decide +kernel
theorem d_Mo_gather_112 : decode m_Mo_gather.2.1 112 = .ok (.aload_n 0, 1) := by decide +kernel
theorem d_Mo_gather_113 : decode m_Mo_gather.2.1 113 = .ok (.getfield 107, 3) := by decide +kernel
theorem d_Mo_gather_116 : decode m_Mo_gather.2.1 116 = .ok (.sipush (1440), 3) := by decide +kernel
theorem d_Mo_gather_119 : decode m_Mo_gather.2.1 119 = .ok (.bipush (24), 2) := by decide +kernel
theorem d_Mo_gather_121 : decode m_Mo_gather.2.1 121 = .ok (.iload 4, 2) := by decide +kernel
theorem d_Mo_gather_123 : decode m_Mo_gather.2.1 123 = .ok (.imul, 1) := by decide +kernel
theorem d_Mo_gather_124 : decode m_Mo_gather.2.1 124 = .ok (.iadd, 1) := by decide +kernel
theorem d_Mo_gather_125 : decode m_Mo_gather.2.1 125 = .ok (.iload 5, 2) := by decide +kernel
theorem d_Mo_gather_127 : decode m_Mo_gather.2.1 127 = .ok (.iadd, 1) := by decide +kernel
theorem d_Mo_gather_128 : decode m_Mo_gather.2.1 128 = .ok (.iaload, 1) := by decide +kernel
theorem d_Mo_gather_129 : decode m_Mo_gather.2.1 129 = .ok (.iastore, 1) := by decide +kernel
theorem d_Mo_gather_130 : decode m_Mo_gather.2.1 130 = .ok (.iinc 5 (1), 3) := by decide +kernel
theorem d_Mo_gather_133 : decode m_Mo_gather.2.1 133 = .ok (.goto (-43), 3) := by decide +kernel
theorem d_Mo_gather_136 : decode m_Mo_gather.2.1 136 = .ok (.iinc 3 (1), 3) := by decide +kernel
theorem d_Mo_gather_139 : decode m_Mo_gather.2.1 139 = .ok (.goto (-88), 3) := by decide +kernel
theorem d_Mo_gather_142 : decode m_Mo_gather.2.1 142 = .ok (.aload_n 0, 1) := by decide +kernel
theorem d_Mo_gather_143 : decode m_Mo_gather.2.1 143 = .ok (.iload_n 2, 1) := by decide +kernel
theorem d_Mo_gather_144 : decode m_Mo_gather.2.1 144 = .ok (.iload_n 1, 1) := by decide +kernel
theorem d_Mo_gather_145 : decode m_Mo_gather.2.1 145 = .ok (.invokevirtual 206, 3) := by decide +kernel
theorem d_Mo_gather_148 : decode m_Mo_gather.2.1 148 = .ok (.istore_n 2, 1) := by decide +kernel
theorem d_Mo_gather_149 : decode m_Mo_gather.2.1 149 = .ok (.aload_n 0, 1) := by decide +kernel
theorem d_Mo_gather_150 : decode m_Mo_gather.2.1 150 = .ok (.getfield 23, 3) := by decide +kernel
theorem d_Mo_gather_153 : decode m_Mo_gather.2.1 153 = .ok (.iload_n 1, 1) := by decide +kernel
theorem d_Mo_gather_154 : decode m_Mo_gather.2.1 154 = .ok (.iaload, 1) := by decide +kernel
theorem d_Mo_gather_155 : decode m_Mo_gather.2.1 155 = .ok (.ifCond .ge (7), 3) := by decide +kernel
theorem d_Mo_gather_158 : decode m_Mo_gather.2.1 158 = .ok (.iload_n 2, 1) := by decide +kernel
theorem d_Mo_gather_159 : decode m_Mo_gather.2.1 159 = .ok (.goto (14), 3) := by decide +kernel
theorem d_Mo_gather_162 : decode m_Mo_gather.2.1 162 = .ok (.aload_n 0, 1) := by decide +kernel
theorem d_Mo_gather_163 : decode m_Mo_gather.2.1 163 = .ok (.iload_n 2, 1) := by decide +kernel
theorem d_Mo_gather_164 : decode m_Mo_gather.2.1 164 = .ok (.aload_n 0, 1) := by decide +kernel
theorem d_Mo_gather_165 : decode m_Mo_gather.2.1 165 = .ok (.getfield 23, 3) := by decide +kernel
theorem d_Mo_gather_168 : decode m_Mo_gather.2.1 168 = .ok (.iload_n 1, 1) := by decide +kernel
theorem d_Mo_gather_169 : decode m_Mo_gather.2.1 169 = .ok (.iaload, 1) := by decide +kernel
theorem d_Mo_gather_170 : decode m_Mo_gather.2.1 170 = .ok (.invokevirtual 206, 3) := by decide +kernel
theorem d_Mo_gather_173 : decode m_Mo_gather.2.1 173 = .ok (.ireturn, 1) := by decide +kernel
