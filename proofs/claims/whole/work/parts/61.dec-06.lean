/-! Instructions -/
theorem d_Mo_parse_0 : decode m_Mo_parse.2.1 0 = .ok (.aload_n 0, 1) := by decide +kernel
theorem d_Mo_parse_1 : decode m_Mo_parse.2.1 1 = .ok (.getfield 26, 3) := by decide +kernel
theorem d_Mo_parse_4 : decode m_Mo_parse.2.1 4 = .ok (.iload_n 1, 1) := by decide +kernel
theorem d_Mo_parse_5 : decode m_Mo_parse.2.1 5 = .ok (.iaload, 1) := by decide +kernel
theorem d_Mo_parse_6 : decode m_Mo_parse.2.1 6 = .ok (.istore_n 3, 1) := by decide +kernel
theorem d_Mo_parse_7 : decode m_Mo_parse.2.1 7 = .ok (.iconst 0, 1) := by decide +kernel
theorem d_Mo_parse_8 : decode m_Mo_parse.2.1 8 = .ok (.istore 4, 2) := by decide +kernel
theorem d_Mo_parse_10 : decode m_Mo_parse.2.1 10 = .ok (.iload 4, 2) := by decide +kernel
theorem d_Mo_parse_12 : decode m_Mo_parse.2.1 12 = .ok (.iload_n 3, 1) := by decide +kernel
theorem d_Mo_parse_13 : decode m_Mo_parse.2.1 13 = .ok (.if_icmp .ge (23), 3) := by decide +kernel
theorem d_Mo_parse_16 : decode m_Mo_parse.2.1 16 = .ok (.aload_n 0, 1) := by decide +kernel
theorem d_Mo_parse_17 : decode m_Mo_parse.2.1 17 = .ok (.iload_n 1, 1) := by decide +kernel
theorem d_Mo_parse_18 : decode m_Mo_parse.2.1 18 = .ok (.iload 4, 2) := by decide +kernel
theorem d_Mo_parse_20 : decode m_Mo_parse.2.1 20 = .ok (.invokevirtual 132, 3) := by decide +kernel
theorem d_Mo_parse_23 : decode m_Mo_parse.2.1 23 = .ok (.bipush (32), 2) := by decide +kernel
theorem d_Mo_parse_25 : decode m_Mo_parse.2.1 25 = .ok (.if_icmp .ne (5), 3) := by decide +kernel
theorem d_Mo_parse_28 : decode m_Mo_parse.2.1 28 = .ok (.iconst 0, 1) := by decide +kernel
theorem d_Mo_parse_29 : decode m_Mo_parse.2.1 29 = .ok (.ireturn, 1) := by decide +kernel
theorem d_Mo_parse_30 : decode m_Mo_parse.2.1 30 = .ok (.iinc 4 (1), 3) := by decide +kernel
theorem d_Mo_parse_33 : decode m_Mo_parse.2.1 33 = .ok (.goto (-23), 3) := by decide +kernel
theorem d_Mo_parse_36 : decode m_Mo_parse.2.1 36 = .ok (.iload_n 3, 1) := by decide +kernel
theorem d_Mo_parse_37 : decode m_Mo_parse.2.1 37 = .ok (.iconst 1, 1) := by decide +kernel
theorem d_Mo_parse_38 : decode m_Mo_parse.2.1 38 = .ok (.if_icmp .lt (9), 3) := by decide +kernel
theorem d_Mo_parse_41 : decode m_Mo_parse.2.1 41 = .ok (.iload_n 3, 1) := by decide +kernel
theorem d_Mo_parse_42 : decode m_Mo_parse.2.1 42 = .ok (.bipush (20), 2) := by decide +kernel
theorem d_Mo_parse_44 : decode m_Mo_parse.2.1 44 = .ok (.if_icmp .le (5), 3) := by decide +kernel
theorem d_Mo_parse_47 : decode m_Mo_parse.2.1 47 = .ok (.iconst 0, 1) := by decide +kernel
theorem d_Mo_parse_48 : decode m_Mo_parse.2.1 48 = .ok (.ireturn, 1) := by decide +kernel
theorem d_Mo_parse_49 : decode m_Mo_parse.2.1 49 = .ok (.iconst 0, 1) := by decide +kernel
theorem d_Mo_parse_50 : decode m_Mo_parse.2.1 50 = .ok (.istore 4, 2) := by decide +kernel
theorem d_Mo_parse_52 : decode m_Mo_parse.2.1 52 = .ok (.iconst 0, 1) := by decide +kernel
theorem d_Mo_parse_53 : decode m_Mo_parse.2.1 53 = .ok (.istore 5, 2) := by decide +kernel
theorem d_Mo_parse_55 : decode m_Mo_parse.2.1 55 = .ok (.aload_n 0, 1) := by decide +kernel
theorem d_Mo_parse_56 : decode m_Mo_parse.2.1 56 = .ok (.iconst 0, 1) := by decide +kernel
theorem d_Mo_parse_57 : decode m_Mo_parse.2.1 57 = .ok (.iconst (-1), 1) := by decide +kernel
theorem d_Mo_parse_58 : decode m_Mo_parse.2.1 58 = .ok (.invokevirtual 147, 3) := by decide +kernel
theorem d_Mo_parse_61 : decode m_Mo_parse.2.1 61 = .ok (.aload_n 0, 1) := by decide +kernel
theorem d_Mo_parse_62 : decode m_Mo_parse.2.1 62 = .ok (.getfield 50, 3) := by decide +kernel
theorem d_Mo_parse_65 : decode m_Mo_parse.2.1 65 = .ok (.iload_n 1, 1) := by decide +kernel
theorem d_Mo_parse_66 : decode m_Mo_parse.2.1 66 = .ok (.iconst (-1), 1) := by decide +kernel
theorem d_Mo_parse_67 : decode m_Mo_parse.2.1 67 = .ok (.iastore, 1) := by decide +kernel
theorem d_Mo_parse_68 : decode m_Mo_parse.2.1 68 = .ok (.iconst 0, 1) := by decide +kernel
theorem d_Mo_parse_69 : decode m_Mo_parse.2.1 69 = .ok (.istore 6, 2) := by decide +kernel
theorem d_Mo_parse_71 : decode m_Mo_parse.2.1 71 = .ok (.iload 6, 2) := by decide +kernel
theorem d_Mo_parse_73 : decode m_Mo_parse.2.1 73 = .ok (.ifCond .lt (283), 3) := by decide +kernel
theorem d_Mo_parse_76 : decode m_Mo_parse.2.1 76 = .ok (.iload 6, 2) := by decide +kernel
theorem d_Mo_parse_78 : decode m_Mo_parse.2.1 78 = .ok (.iload_n 3, 1) := by decide +kernel
theorem d_Mo_parse_79 : decode m_Mo_parse.2.1 79 = .ok (.if_icmp .ge (277), 3) := by decide +kernel
theorem d_Mo_parse_82 : decode m_Mo_parse.2.1 82 = .ok (.aload_n 0, 1) := by decide +kernel
theorem d_Mo_parse_83 : decode m_Mo_parse.2.1 83 = .ok (.iload_n 1, 1) := by decide +kernel
theorem d_Mo_parse_84 : decode m_Mo_parse.2.1 84 = .ok (.iload 6, 2) := by decide +kernel
theorem d_Mo_parse_86 : decode m_Mo_parse.2.1 86 = .ok (.invokevirtual 132, 3) := by decide +kernel
theorem d_Mo_parse_89 : decode m_Mo_parse.2.1 89 = .ok (.istore 7, 2) := by decide +kernel
theorem d_Mo_parse_91 : decode m_Mo_parse.2.1 91 = .ok (.bipush (21), 2) := by decide +kernel
theorem d_Mo_parse_93 : decode m_Mo_parse.2.1 93 = .ok (.iload_n 1, 1) := by decide +kernel
theorem d_Mo_parse_94 : decode m_Mo_parse.2.1 94 = .ok (.imul, 1) := by decide +kernel
theorem d_Mo_parse_95 : decode m_Mo_parse.2.1 95 = .ok (.iload 6, 2) := by decide +kernel
theorem d_Mo_parse_97 : decode m_Mo_parse.2.1 97 = .ok (.iadd, 1) := by decide +kernel
theorem d_Mo_parse_98 : decode m_Mo_parse.2.1 98 = .ok (.istore 8, 2) := by decide +kernel
theorem d_Mo_parse_100 : decode m_Mo_parse.2.1 100 = .ok (.aload_n 0, 1) := by decide +kernel
theorem d_Mo_parse_101 : decode m_Mo_parse.2.1 101 = .ok (.getfield 47, 3) := by decide +kernel
theorem d_Mo_parse_104 : decode m_Mo_parse.2.1 104 = .ok (.iload 8, 2) := by decide +kernel
theorem d_Mo_parse_106 : decode m_Mo_parse.2.1 106 = .ok (.iconst (-1), 1) := by decide +kernel
theorem d_Mo_parse_107 : decode m_Mo_parse.2.1 107 = .ok (.iastore, 1) := by decide +kernel
theorem d_Mo_parse_108 : decode m_Mo_parse.2.1 108 = .ok (.iload 7, 2) := by decide +kernel
theorem d_Mo_parse_110 : decode m_Mo_parse.2.1 110 = .ok (.bipush (40), 2) := by decide +kernel
theorem d_Mo_parse_112 : decode m_Mo_parse.2.1 112 = .ok (.if_icmp .ne (42), 3) := by decide +kernel
theorem d_Mo_parse_115 : decode m_Mo_parse.2.1 115 = .ok (.iinc 5 (1), 3) := by decide +kernel
theorem d_Mo_parse_118 : decode m_Mo_parse.2.1 118 = .ok (.iload 5, 2) := by decide +kernel
theorem d_Mo_parse_120 : decode m_Mo_parse.2.1 120 = .ok (.iconst 3, 1) := by decide +kernel
theorem d_Mo_parse_121 : decode m_Mo_parse.2.1 121 = .ok (.if_icmp .le (5), 3) := by decide +kernel
theorem d_Mo_parse_124 : decode m_Mo_parse.2.1 124 = .ok (.iconst 0, 1) := by decide +kernel
theorem d_Mo_parse_125 : decode m_Mo_parse.2.1 125 = .ok (.ireturn, 1) := by decide +kernel
theorem d_Mo_parse_126 : decode m_Mo_parse.2.1 126 = .ok (.aload_n 0, 1) := by decide +kernel
theorem d_Mo_parse_127 : decode m_Mo_parse.2.1 127 = .ok (.getfield 41, 3) := by decide +kernel
theorem d_Mo_parse_130 : decode m_Mo_parse.2.1 130 = .ok (.iload 8, 2) := by decide +kernel
theorem d_Mo_parse_132 : decode m_Mo_parse.2.1 132 = .ok (.iload 5, 2) := by decide +kernel
theorem d_Mo_parse_134 : decode m_Mo_parse.2.1 134 = .ok (.iconst 1, 1) := by decide +kernel
theorem d_Mo_parse_135 : decode m_Mo_parse.2.1 135 = .ok (.isub, 1) := by decide +kernel
theorem d_Mo_parse_136 : decode m_Mo_parse.2.1 136 = .ok (.iastore, 1) := by decide +kernel
theorem d_Mo_parse_137 : decode m_Mo_parse.2.1 137 = .ok (.iinc 4 (1), 3) := by decide +kernel
theorem d_Mo_parse_140 : decode m_Mo_parse.2.1 140 = .ok (.aload_n 0, 1) := by decide +kernel
theorem d_Mo_parse_141 : decode m_Mo_parse.2.1 141 = .ok (.iload 4, 2) := by decide +kernel
theorem d_Mo_parse_143 : decode m_Mo_parse.2.1 143 = .ok (.iload 6, 2) := by decide +kernel
theorem d_Mo_parse_145 : decode m_Mo_parse.2.1 145 = .ok (.invokevirtual 147, 3) := by decide +kernel
theorem d_Mo_parse_148 : decode m_Mo_parse.2.1 148 = .ok (.iinc 6 (1), 3) := by decide +kernel
theorem d_Mo_parse_151 : decode m_Mo_parse.2.1 151 = .ok (.goto (202), 3) := by decide +kernel
theorem d_Mo_parse_154 : decode m_Mo_parse.2.1 154 = .ok (.iload 7, 2) := by decide +kernel
theorem d_Mo_parse_156 : decode m_Mo_parse.2.1 156 = .ok (.bipush (124), 2) := by decide +kernel
theorem d_Mo_parse_158 : decode m_Mo_parse.2.1 158 = .ok (.if_icmp .ne (66), 3) := by decide +kernel
theorem d_Mo_parse_161 : decode m_Mo_parse.2.1 161 = .ok (.aload_n 0, 1) := by decide +kernel
theorem d_Mo_parse_162 : decode m_Mo_parse.2.1 162 = .ok (.iload_n 1, 1) := by decide +kernel
theorem d_Mo_parse_163 : decode m_Mo_parse.2.1 163 = .ok (.iload 6, 2) := by decide +kernel
theorem d_Mo_parse_165 : decode m_Mo_parse.2.1 165 = .ok (.iload 4, 2) := by decide +kernel
theorem d_Mo_parse_167 : decode m_Mo_parse.2.1 167 = .ok (.invokevirtual 151, 3) := by decide +kernel
theorem d_Mo_parse_170 : decode m_Mo_parse.2.1 170 = .ok (.aload_n 0, 1) := by decide +kernel
theorem d_Mo_parse_171 : decode m_Mo_parse.2.1 171 = .ok (.getfield 56, 3) := by decide +kernel
theorem d_Mo_parse_174 : decode m_Mo_parse.2.1 174 = .ok (.iload 4, 2) := by decide +kernel
theorem d_Mo_parse_176 : decode m_Mo_parse.2.1 176 = .ok (.iaload, 1) := by decide +kernel
theorem d_Mo_parse_177 : decode m_Mo_parse.2.1 177 = .ok (.istore 9, 2) := by decide +kernel
theorem d_Mo_parse_179 : decode m_Mo_parse.2.1 179 = .ok (.aload_n 0, 1) := by decide +kernel
theorem d_Mo_parse_180 : decode m_Mo_parse.2.1 180 = .ok (.getfield 56, 3) := by decide +kernel
theorem d_Mo_parse_183 : decode m_Mo_parse.2.1 183 = .ok (.iload 4, 2) := by decide +kernel
theorem d_Mo_parse_185 : decode m_Mo_parse.2.1 185 = .ok (.iload 6, 2) := by decide +kernel
theorem d_Mo_parse_187 : decode m_Mo_parse.2.1 187 = .ok (.iastore, 1) := by decide +kernel
theorem d_Mo_parse_188 : decode m_Mo_parse.2.1 188 = .ok (.iload 9, 2) := by decide +kernel
theorem d_Mo_parse_190 : decode m_Mo_parse.2.1 190 = .ok (.ifCond .ge (14), 3) := by decide +kernel
theorem d_Mo_parse_193 : decode m_Mo_parse.2.1 193 = .ok (.aload_n 0, 1) := by decide +kernel
theorem d_Mo_parse_194 : decode m_Mo_parse.2.1 194 = .ok (.getfield 50, 3) := by decide +kernel
theorem d_Mo_parse_197 : decode m_Mo_parse.2.1 197 = .ok (.iload_n 1, 1) := by decide +kernel
theorem d_Mo_parse_198 : decode m_Mo_parse.2.1 198 = .ok (.iload 6, 2) := by decide +kernel
theorem d_Mo_parse_200 : decode m_Mo_parse.2.1 200 = .ok (.iastore, 1) := by decide +kernel
theorem d_Mo_parse_201 : decode m_Mo_parse.2.1 201 = .ok (.goto (17), 3) := by decide +kernel
theorem d_Mo_parse_204 : decode m_Mo_parse.2.1 204 = .ok (.aload_n 0, 1) := by decide +kernel
theorem d_Mo_parse_205 : decode m_Mo_parse.2.1 205 = .ok (.getfield 47, 3) := by decide +kernel
theorem d_Mo_parse_208 : decode m_Mo_parse.2.1 208 = .ok (.bipush (21), 2) := by decide +kernel
theorem d_Mo_parse_210 : decode m_Mo_parse.2.1 210 = .ok (.iload_n 1, 1) := by decide +kernel
theorem d_Mo_parse_211 : decode m_Mo_parse.2.1 211 = .ok (.imul, 1) := by decide +kernel
theorem d_Mo_parse_212 : decode m_Mo_parse.2.1 212 = .ok (.iload 9, 2) := by decide +kernel
theorem d_Mo_parse_214 : decode m_Mo_parse.2.1 214 = .ok (.iadd, 1) := by decide +kernel
theorem d_Mo_parse_215 : decode m_Mo_parse.2.1 215 = .ok (.iload 6, 2) := by decide +kernel
theorem d_Mo_parse_217 : decode m_Mo_parse.2.1 217 = .ok (.iastore, 1) := by decide +kernel
theorem d_Mo_parse_218 : decode m_Mo_parse.2.1 218 = .ok (.iinc 6 (1), 3) := by decide +kernel
theorem d_Mo_parse_221 : decode m_Mo_parse.2.1 221 = .ok (.goto (132), 3) := by decide +kernel
theorem d_Mo_parse_224 : decode m_Mo_parse.2.1 224 = .ok (.iload 7, 2) := by decide +kernel
theorem d_Mo_parse_226 : decode m_Mo_parse.2.1 226 = .ok (.bipush (41), 2) := by decide +kernel
theorem d_Mo_parse_228 : decode m_Mo_parse.2.1 228 = .ok (.if_icmp .ne (60), 3) := by decide +kernel
theorem d_Mo_parse_231 : decode m_Mo_parse.2.1 231 = .ok (.iload 4, 2) := by decide +kernel
theorem d_Mo_parse_233 : decode m_Mo_parse.2.1 233 = .ok (.ifCond .ne (5), 3) := by decide +kernel
theorem d_Mo_parse_236 : decode m_Mo_parse.2.1 236 = .ok (.iconst 0, 1) := by decide +kernel
theorem d_Mo_parse_237 : decode m_Mo_parse.2.1 237 = .ok (.ireturn, 1) := by decide +kernel
theorem d_Mo_parse_238 : decode m_Mo_parse.2.1 238 = .ok (.aload_n 0, 1) := by decide +kernel
theorem d_Mo_parse_239 : decode m_Mo_parse.2.1 239 = .ok (.iload_n 1, 1) := by decide +kernel
theorem d_Mo_parse_240 : decode m_Mo_parse.2.1 240 = .ok (.iload 6, 2) := by decide +kernel
theorem d_Mo_parse_242 : decode m_Mo_parse.2.1 242 = .ok (.iload 4, 2) := by decide +kernel
theorem d_Mo_parse_244 : decode m_Mo_parse.2.1 244 = .ok (.invokevirtual 151, 3) := by decide +kernel
theorem d_Mo_parse_247 : decode m_Mo_parse.2.1 247 = .ok (.aload_n 0, 1) := by decide +kernel
theorem d_Mo_parse_248 : decode m_Mo_parse.2.1 248 = .ok (.getfield 59, 3) := by decide +kernel
theorem d_Mo_parse_251 : decode m_Mo_parse.2.1 251 = .ok (.iload 4, 2) := by decide +kernel
theorem d_Mo_parse_253 : decode m_Mo_parse.2.1 253 = .ok (.baload, 1) := by decide +kernel
theorem d_Mo_parse_254 : decode m_Mo_parse.2.1 254 = .ok (.istore 9, 2) := by decide +kernel
theorem d_Mo_parse_256 : decode m_Mo_parse.2.1 256 = .ok (.aload_n 0, 1) := by decide +kernel
theorem d_Mo_parse_257 : decode m_Mo_parse.2.1 257 = .ok (.getfield 53, 3) := by decide +kernel
theorem d_Mo_parse_260 : decode m_Mo_parse.2.1 260 = .ok (.iload 4, 2) := by decide +kernel
theorem d_Mo_parse_262 : decode m_Mo_parse.2.1 262 = .ok (.iaload, 1) := by decide +kernel
theorem d_Mo_parse_263 : decode m_Mo_parse.2.1 263 = .ok (.istore 10, 2) := by decide +kernel
theorem d_Mo_parse_265 : decode m_Mo_parse.2.1 265 = .ok (.iinc 4 (-1), 3) := by decide +kernel
theorem d_Mo_parse_268 : decode m_Mo_parse.2.1 268 = .ok (.aload_n 0, 1) := by decide +kernel
theorem d_Mo_parse_269 : decode m_Mo_parse.2.1 269 = .ok (.iload_n 1, 1) := by decide +kernel
theorem d_Mo_parse_270 : decode m_Mo_parse.2.1 270 = .ok (.iload 10, 2) := by decide +kernel
theorem d_Mo_parse_272 : decode m_Mo_parse.2.1 272 = .ok (.iload 6, 2) := by decide +kernel
theorem d_Mo_parse_274 : decode m_Mo_parse.2.1 274 = .ok (.iconst 1, 1) := by decide +kernel
theorem d_Mo_parse_275 : decode m_Mo_parse.2.1 275 = .ok (.iadd, 1) := by decide +kernel
theorem d_Mo_parse_276 : decode m_Mo_parse.2.1 276 = .ok (.iload 9, 2) := by decide +kernel
theorem d_Mo_parse_278 : decode m_Mo_parse.2.1 278 = .ok (.iload 4, 2) := by decide +kernel
theorem d_Mo_parse_280 : decode m_Mo_parse.2.1 280 = .ok (.invokevirtual 155, 3) := by decide +kernel
theorem d_Mo_parse_283 : decode m_Mo_parse.2.1 283 = .ok (.istore 6, 2) := by decide +kernel
theorem d_Mo_parse_285 : decode m_Mo_parse.2.1 285 = .ok (.goto (68), 3) := by decide +kernel
theorem d_Mo_parse_288 : decode m_Mo_parse.2.1 288 = .ok (.aload_n 0, 1) := by decide +kernel
theorem d_Mo_parse_289 : decode m_Mo_parse.2.1 289 = .ok (.iload_n 1, 1) := by decide +kernel
theorem d_Mo_parse_290 : decode m_Mo_parse.2.1 290 = .ok (.iload 6, 2) := by decide +kernel
theorem d_Mo_parse_292 : decode m_Mo_parse.2.1 292 = .ok (.iload_n 2, 1) := by decide +kernel
theorem d_Mo_parse_293 : decode m_Mo_parse.2.1 293 = .ok (.invokevirtual 159, 3) := by decide +kernel
theorem d_Mo_parse_296 : decode m_Mo_parse.2.1 296 = .ok (.istore 9, 2) := by decide +kernel
theorem d_Mo_parse_298 : decode m_Mo_parse.2.1 298 = .ok (.iload 7, 2) := by decide +kernel
theorem d_Mo_parse_300 : decode m_Mo_parse.2.1 300 = .ok (.bipush (94), 2) := by decide +kernel
theorem d_Mo_parse_302 : decode m_Mo_parse.2.1 302 = .ok (.if_icmp .eq (20), 3) := by decide +kernel
theorem d_Mo_parse_305 : decode m_Mo_parse.2.1 305 = .ok (.iload 7, 2) := by decide +kernel
theorem d_Mo_parse_307 : decode m_Mo_parse.2.1 307 = .ok (.bipush (36), 2) := by decide +kernel
theorem d_Mo_parse_309 : decode m_Mo_parse.2.1 309 = .ok (.if_icmp .eq (13), 3) := by decide +kernel
theorem d_Mo_parse_312 : decode m_Mo_parse.2.1 312 = .ok (.aload_n 0, 1) := by decide +kernel
theorem d_Mo_parse_313 : decode m_Mo_parse.2.1 313 = .ok (.iload_n 1, 1) := by decide +kernel
theorem d_Mo_parse_314 : decode m_Mo_parse.2.1 314 = .ok (.iload 6, 2) := by decide +kernel
theorem d_Mo_parse_316 : decode m_Mo_parse.2.1 316 = .ok (.invokevirtual 143, 3) := by decide +kernel
theorem d_Mo_parse_319 : decode m_Mo_parse.2.1 319 = .ok (.ifCond .eq (7), 3) := by decide +kernel
theorem d_Mo_parse_322 : decode m_Mo_parse.2.1 322 = .ok (.iconst 1, 1) := by decide +kernel
theorem d_Mo_parse_323 : decode m_Mo_parse.2.1 323 = .ok (.goto (4), 3) := by decide +kernel
theorem d_Mo_parse_326 : decode m_Mo_parse.2.1 326 = .ok (.iconst 0, 1) := by decide +kernel
theorem d_Mo_parse_327 : decode m_Mo_parse.2.1 327 = .ok (.istore 10, 2) := by decide +kernel
theorem d_Mo_parse_329 : decode m_Mo_parse.2.1 329 = .ok (.iload 9, 2) := by decide +kernel
theorem d_Mo_parse_331 : decode m_Mo_parse.2.1 331 = .ok (.ifCond .ge (7), 3) := by decide +kernel
theorem d_Mo_parse_334 : decode m_Mo_parse.2.1 334 = .ok (.iconst (-1), 1) := by decide +kernel
theorem d_Mo_parse_335 : decode m_Mo_parse.2.1 335 = .ok (.goto (16), 3) := by decide +kernel
theorem d_Mo_parse_338 : decode m_Mo_parse.2.1 338 = .ok (.aload_n 0, 1) := by decide +kernel
theorem d_Mo_parse_339 : decode m_Mo_parse.2.1 339 = .ok (.iload_n 1, 1) := by decide +kernel
theorem d_Mo_parse_340 : decode m_Mo_parse.2.1 340 = .ok (.iload 6, 2) := by decide +kernel
theorem d_Mo_parse_342 : decode m_Mo_parse.2.1 342 = .ok (.iload 9, 2) := by decide +kernel
theorem d_Mo_parse_344 : decode m_Mo_parse.2.1 344 = .ok (.iload 10, 2) := by decide +kernel
theorem d_Mo_parse_346 : decode m_Mo_parse.2.1 346 = .ok (.iload 4, 2) := by decide +kernel
theorem d_Mo_parse_348 : decode m_Mo_parse.2.1 348 = .ok (.invokevirtual 155, 3) := by decide +kernel
theorem d_Mo_parse_351 : decode m_Mo_parse.2.1 351 = .ok (.istore 6, 2) := by decide +kernel
theorem d_Mo_parse_353 : decode m_Mo_parse.2.1 353 = .ok (.goto (-282), 3) := by decide +kernel
theorem d_Mo_parse_356 : decode m_Mo_parse.2.1 356 = .ok (.iload 6, 2) := by decide +kernel
theorem d_Mo_parse_358 : decode m_Mo_parse.2.1 358 = .ok (.ifCond .lt (8), 3) := by decide +kernel
theorem d_Mo_parse_361 : decode m_Mo_parse.2.1 361 = .ok (.iload 4, 2) := by decide +kernel
theorem d_Mo_parse_363 : decode m_Mo_parse.2.1 363 = .ok (.ifCond .le (5), 3) := by decide +kernel
theorem d_Mo_parse_366 : decode m_Mo_parse.2.1 366 = .ok (.iconst 0, 1) := by decide +kernel
theorem d_Mo_parse_367 : decode m_Mo_parse.2.1 367 = .ok (.ireturn, 1) := by decide +kernel
theorem d_Mo_parse_368 : decode m_Mo_parse.2.1 368 = .ok (.aload_n 0, 1) := by decide +kernel
theorem d_Mo_parse_369 : decode m_Mo_parse.2.1 369 = .ok (.iload_n 1, 1) := by decide +kernel
theorem d_Mo_parse_370 : decode m_Mo_parse.2.1 370 = .ok (.iload_n 3, 1) := by decide +kernel
theorem d_Mo_parse_371 : decode m_Mo_parse.2.1 371 = .ok (.iconst 0, 1) := by decide +kernel
theorem d_Mo_parse_372 : decode m_Mo_parse.2.1 372 = .ok (.invokevirtual 151, 3) := by decide +kernel
theorem d_Mo_parse_375 : decode m_Mo_parse.2.1 375 = .ok (.iconst 1, 1) := by decide +kernel
theorem d_Mo_parse_376 : decode m_Mo_parse.2.1 376 = .ok (.ireturn, 1) := by decide +kernel
theorem d_Mo_inItems_0 : decode m_Mo_inItems.2.1 0 = .ok (.aload_n 0, 1) := by decide +kernel
theorem d_Mo_inItems_1 : decode m_Mo_inItems.2.1 1 = .ok (.iload_n 1, 1) := by decide +kernel
theorem d_Mo_inItems_2 : decode m_Mo_inItems.2.1 2 = .ok (.iload_n 2, 1) := by decide +kernel
theorem d_Mo_inItems_3 : decode m_Mo_inItems.2.1 3 = .ok (.iconst 1, 1) := by decide +kernel
theorem d_Mo_inItems_4 : decode m_Mo_inItems.2.1 4 = .ok (.iadd, 1) := by decide +kernel
theorem d_Mo_inItems_5 : decode m_Mo_inItems.2.1 5 = .ok (.invokevirtual 132, 3) := by decide +kernel
theorem d_Mo_inItems_8 : decode m_Mo_inItems.2.1 8 = .ok (.bipush (94), 2) := by decide +kernel
theorem d_Mo_inItems_10 : decode m_Mo_inItems.2.1 10 = .ok (.if_icmp .ne (7), 3) := by decide +kernel
theorem d_Mo_inItems_13 : decode m_Mo_inItems.2.1 13 = .ok (.iconst 1, 1) := by decide +kernel
theorem d_Mo_inItems_14 : decode m_Mo_inItems.2.1 14 = .ok (.goto (4), 3) := by decide +kernel
theorem d_Mo_inItems_17 : decode m_Mo_inItems.2.1 17 = .ok (.iconst 0, 1) := by decide +kernel
theorem d_Mo_inItems_18 : decode m_Mo_inItems.2.1 18 = .ok (.istore 4, 2) := by decide +kernel
theorem d_Mo_inItems_20 : decode m_Mo_inItems.2.1 20 = .ok (.iload 4, 2) := by decide +kernel
theorem d_Mo_inItems_22 : decode m_Mo_inItems.2.1 22 = .ok (.ifCond .eq (9), 3) := by decide +kernel
theorem d_Mo_inItems_25 : decode m_Mo_inItems.2.1 25 = .ok (.iload_n 2, 1) := by decide +kernel
theorem d_Mo_inItems_26 : decode m_Mo_inItems.2.1 26 = .ok (.iconst 2, 1) := by decide +kernel
theorem d_Mo_inItems_27 : decode m_Mo_inItems.2.1 27 = .ok (.iadd, 1) := by decide +kernel
theorem d_Mo_inItems_28 : decode m_Mo_inItems.2.1 28 = .ok (.goto (6), 3) := by decide +kernel
theorem d_Mo_inItems_31 : decode m_Mo_inItems.2.1 31 = .ok (.iload_n 2, 1) := by decide +kernel
theorem d_Mo_inItems_32 : decode m_Mo_inItems.2.1 32 = .ok (.iconst 1, 1) := by decide +kernel
theorem d_Mo_inItems_33 : decode m_Mo_inItems.2.1 33 = .ok (.iadd, 1) := by decide +kernel
theorem d_Mo_inItems_34 : decode m_Mo_inItems.2.1 34 = .ok (.istore 5, 2) := by decide +kernel
theorem d_Mo_inItems_36 : decode m_Mo_inItems.2.1 36 = .ok (.iconst 0, 1) := by decide +kernel
theorem d_Mo_inItems_37 : decode m_Mo_inItems.2.1 37 = .ok (.istore 6, 2) := by decide +kernel
theorem d_Mo_inItems_39 : decode m_Mo_inItems.2.1 39 = .ok (.aload_n 0, 1) := by decide +kernel
theorem d_Mo_inItems_40 : decode m_Mo_inItems.2.1 40 = .ok (.getfield 35, 3) := by decide +kernel
theorem d_Mo_inItems_43 : decode m_Mo_inItems.2.1 43 = .ok (.bipush (21), 2) := by decide +kernel
theorem d_Mo_inItems_45 : decode m_Mo_inItems.2.1 45 = .ok (.iload_n 1, 1) := by decide +kernel
theorem d_Mo_inItems_46 : decode m_Mo_inItems.2.1 46 = .ok (.imul, 1) := by decide +kernel
theorem d_Mo_inItems_47 : decode m_Mo_inItems.2.1 47 = .ok (.iload_n 2, 1) := by decide +kernel
theorem d_Mo_inItems_48 : decode m_Mo_inItems.2.1 48 = .ok (.iadd, 1) := by decide +kernel
theorem d_Mo_inItems_49 : decode m_Mo_inItems.2.1 49 = .ok (.iaload, 1) := by decide +kernel
theorem d_Mo_inItems_50 : decode m_Mo_inItems.2.1 50 = .ok (.iconst 1, 1) := by decide +kernel
theorem d_Mo_inItems_51 : decode m_Mo_inItems.2.1 51 = .ok (.isub, 1) := by decide +kernel
theorem d_Mo_inItems_52 : decode m_Mo_inItems.2.1 52 = .ok (.istore 7, 2) := by decide +kernel
theorem d_Mo_inItems_54 : decode m_Mo_inItems.2.1 54 = .ok (.iload 5, 2) := by decide +kernel
theorem d_Mo_inItems_56 : decode m_Mo_inItems.2.1 56 = .ok (.iload 7, 2) := by decide +kernel
theorem d_Mo_inItems_58 : decode m_Mo_inItems.2.1 58 = .ok (.if_icmp .ge (108), 3) := by decide +kernel
theorem d_Mo_inItems_61 : decode m_Mo_inItems.2.1 61 = .ok (.aload_n 0, 1) := by decide +kernel
theorem d_Mo_inItems_62 : decode m_Mo_inItems.2.1 62 = .ok (.iload_n 1, 1) := by decide +kernel
theorem d_Mo_inItems_63 : decode m_Mo_inItems.2.1 63 = .ok (.iload 5, 2) := by decide +kernel
theorem d_Mo_inItems_65 : decode m_Mo_inItems.2.1 65 = .ok (.iconst 1, 1) := by decide +kernel
theorem d_Mo_inItems_66 : decode m_Mo_inItems.2.1 66 = .ok (.iadd, 1) := by decide +kernel
theorem d_Mo_inItems_67 : decode m_Mo_inItems.2.1 67 = .ok (.invokevirtual 132, 3) := by decide +kernel
theorem d_Mo_inItems_70 : decode m_Mo_inItems.2.1 70 = .ok (.bipush (45), 2) := by decide +kernel
theorem d_Mo_inItems_72 : decode m_Mo_inItems.2.1 72 = .ok (.if_icmp .ne (16), 3) := by decide +kernel
theorem d_Mo_inItems_75 : decode m_Mo_inItems.2.1 75 = .ok (.iload 5, 2) := by decide +kernel
theorem d_Mo_inItems_77 : decode m_Mo_inItems.2.1 77 = .ok (.iconst 2, 1) := by decide +kernel
theorem d_Mo_inItems_78 : decode m_Mo_inItems.2.1 78 = .ok (.iadd, 1) := by decide +kernel
theorem d_Mo_inItems_79 : decode m_Mo_inItems.2.1 79 = .ok (.iload 7, 2) := by decide +kernel
theorem d_Mo_inItems_81 : decode m_Mo_inItems.2.1 81 = .ok (.if_icmp .ge (7), 3) := by decide +kernel
theorem d_Mo_inItems_84 : decode m_Mo_inItems.2.1 84 = .ok (.iconst 1, 1) := by decide +kernel
theorem d_Mo_inItems_85 : decode m_Mo_inItems.2.1 85 = .ok (.goto (4), 3) := by decide +kernel
theorem d_Mo_inItems_88 : decode m_Mo_inItems.2.1 88 = .ok (.iconst 0, 1) := by decide +kernel
theorem d_Mo_inItems_89 : decode m_Mo_inItems.2.1 89 = .ok (.istore 8, 2) := by decide +kernel
theorem d_Mo_inItems_91 : decode m_Mo_inItems.2.1 91 = .ok (.aload_n 0, 1) := by decide +kernel
theorem d_Mo_inItems_92 : decode m_Mo_inItems.2.1 92 = .ok (.iload_n 1, 1) := by decide +kernel
theorem d_Mo_inItems_93 : decode m_Mo_inItems.2.1 93 = .ok (.iload 5, 2) := by decide +kernel
theorem d_Mo_inItems_95 : decode m_Mo_inItems.2.1 95 = .ok (.invokevirtual 132, 3) := by decide +kernel
theorem d_Mo_inItems_98 : decode m_Mo_inItems.2.1 98 = .ok (.istore 9, 2) := by decide +kernel
theorem d_Mo_inItems_100 : decode m_Mo_inItems.2.1 100 = .ok (.iload 8, 2) := by decide +kernel
theorem d_Mo_inItems_102 : decode m_Mo_inItems.2.1 102 = .ok (.ifCond .eq (15), 3) := by decide +kernel
theorem d_Mo_inItems_105 : decode m_Mo_inItems.2.1 105 = .ok (.aload_n 0, 1) := by decide +kernel
theorem d_Mo_inItems_106 : decode m_Mo_inItems.2.1 106 = .ok (.iload_n 1, 1) := by decide +kernel
theorem d_Mo_inItems_107 : decode m_Mo_inItems.2.1 107 = .ok (.iload 5, 2) := by decide +kernel
theorem d_Mo_inItems_109 : decode m_Mo_inItems.2.1 109 = .ok (.iconst 2, 1) := by decide +kernel
theorem d_Mo_inItems_110 : decode m_Mo_inItems.2.1 110 = .ok (.iadd, 1) := by decide +kernel
theorem d_Mo_inItems_111 : decode m_Mo_inItems.2.1 111 = .ok (.invokevirtual 132, 3) := by decide +kernel
theorem d_Mo_inItems_114 : decode m_Mo_inItems.2.1 114 = .ok (.goto (5), 3) := by decide +kernel
theorem d_Mo_inItems_117 : decode m_Mo_inItems.2.1 117 = .ok (.iload 9, 2) := by decide +kernel
theorem d_Mo_inItems_119 : decode m_Mo_inItems.2.1 119 = .ok (.istore 10, 2) := by decide +kernel
theorem d_Mo_inItems_121 : decode m_Mo_inItems.2.1 121 = .ok (.iload 6, 2) := by decide +kernel
theorem d_Mo_inItems_123 : decode m_Mo_inItems.2.1 123 = .ok (.ifCond .ne (15), 3) := by decide +kernel
theorem d_Mo_inItems_126 : decode m_Mo_inItems.2.1 126 = .ok (.iload_n 3, 1) := by decide +kernel
theorem d_Mo_inItems_127 : decode m_Mo_inItems.2.1 127 = .ok (.iload 9, 2) := by decide +kernel
theorem d_Mo_inItems_129 : decode m_Mo_inItems.2.1 129 = .ok (.if_icmp .lt (13), 3) := by decide +kernel
theorem d_Mo_inItems_132 : decode m_Mo_inItems.2.1 132 = .ok (.iload_n 3, 1) := by decide +kernel
theorem d_Mo_inItems_133 : decode m_Mo_inItems.2.1 133 = .ok (.iload 10, 2) := by decide +kernel
theorem d_Mo_inItems_135 : decode m_Mo_inItems.2.1 135 = .ok (.if_icmp .gt (7), 3) := by decide +kernel
theorem d_Mo_inItems_138 : decode m_Mo_inItems.2.1 138 = .ok (.iconst 1, 1) := by decide +kernel
theorem d_Mo_inItems_139 : decode m_Mo_inItems.2.1 139 = .ok (.goto (4), 3) := by decide +kernel
theorem d_Mo_inItems_142 : decode m_Mo_inItems.2.1 142 = .ok (.iconst 0, 1) := by decide +kernel
theorem d_Mo_inItems_143 : decode m_Mo_inItems.2.1 143 = .ok (.istore 6, 2) := by decide +kernel
theorem d_Mo_inItems_145 : decode m_Mo_inItems.2.1 145 = .ok (.iload 8, 2) := by decide +kernel
theorem d_Mo_inItems_147 : decode m_Mo_inItems.2.1 147 = .ok (.ifCond .eq (10), 3) := by decide +kernel
theorem d_Mo_inItems_150 : decode m_Mo_inItems.2.1 150 = .ok (.iload 5, 2) := by decide +kernel
theorem d_Mo_inItems_152 : decode m_Mo_inItems.2.1 152 = .ok (.iconst 3, 1) := by decide +kernel
theorem d_Mo_inItems_153 : decode m_Mo_inItems.2.1 153 = .ok (.iadd, 1) := by decide +kernel
theorem d_Mo_inItems_154 : decode m_Mo_inItems.2.1 154 = .ok (.goto (7), 3) := by decide +kernel
theorem d_Mo_inItems_157 : decode m_Mo_inItems.2.1 157 = .ok (.iload 5, 2) := by decide +kernel
theorem d_Mo_inItems_159 : decode m_Mo_inItems.2.1 159 = .ok (.iconst 1, 1) := by decide +kernel
theorem d_Mo_inItems_160 : decode m_Mo_inItems.2.1 160 = .ok (.iadd, 1) := by decide +kernel
theorem d_Mo_inItems_161 : decode m_Mo_inItems.2.1 161 = .ok (.istore 5, 2) := by decide +kernel
theorem d_Mo_inItems_163 : decode m_Mo_inItems.2.1 163 = .ok (.goto (-109), 3) := by decide +kernel
theorem d_Mo_inItems_166 : decode m_Mo_inItems.2.1 166 = .ok (.iload 6, 2) := by decide +kernel
theorem d_Mo_inItems_168 : decode m_Mo_inItems.2.1 168 = .ok (.iload 4, 2) := by decide +kernel
theorem d_Mo_inItems_170 : decode m_Mo_inItems.2.1 170 = .ok (.if_icmp .eq (7), 3) := by decide +kernel
theorem d_Mo_inItems_173 : decode m_Mo_inItems.2.1 173 = .ok (.iconst 1, 1) := by decide +kernel
theorem d_Mo_inItems_174 : decode m_Mo_inItems.2.1 174 = .ok (.goto (4), 3) := by decide +kernel
theorem d_Mo_inItems_177 : decode m_Mo_inItems.2.1 177 = .ok (.iconst 0, 1) := by decide +kernel
theorem d_Mo_inItems_178 : decode m_Mo_inItems.2.1 178 = .ok (.ireturn, 1) := by decide +kernel
theorem d_Mo_push_0 : decode m_Mo_push.2.1 0 = .ok (.bipush (9), 2) := by decide +kernel
theorem d_Mo_push_2 : decode m_Mo_push.2.1 2 = .ok (.aload_n 0, 1) := by decide +kernel
theorem d_Mo_push_3 : decode m_Mo_push.2.1 3 = .ok (.getfield 163, 3) := by decide +kernel
theorem d_Mo_push_6 : decode m_Mo_push.2.1 6 = .ok (.imul, 1) := by decide +kernel
theorem d_Mo_push_7 : decode m_Mo_push.2.1 7 = .ok (.istore 4, 2) := by decide +kernel
theorem d_Mo_push_9 : decode m_Mo_push.2.1 9 = .ok (.aload_n 0, 1) := by decide +kernel
theorem d_Mo_push_10 : decode m_Mo_push.2.1 10 = .ok (.getfield 68, 3) := by decide +kernel
theorem d_Mo_push_13 : decode m_Mo_push.2.1 13 = .ok (.iload 4, 2) := by decide +kernel
theorem d_Mo_push_15 : decode m_Mo_push.2.1 15 = .ok (.iload_n 1, 1) := by decide +kernel
theorem d_Mo_push_16 : decode m_Mo_push.2.1 16 = .ok (.iastore, 1) := by decide +kernel
theorem d_Mo_push_17 : decode m_Mo_push.2.1 17 = .ok (.aload_n 0, 1) := by decide +kernel
theorem d_Mo_push_18 : decode m_Mo_push.2.1 18 = .ok (.getfield 68, 3) := by decide +kernel
theorem d_Mo_push_21 : decode m_Mo_push.2.1 21 = .ok (.iload 4, 2) := by decide +kernel
theorem d_Mo_push_23 : decode m_Mo_push.2.1 23 = .ok (.iconst 1, 1) := by decide +kernel
theorem d_Mo_push_24 : decode m_Mo_push.2.1 24 = .ok (.iadd, 1) := by decide +kernel
theorem d_Mo_push_25 : decode m_Mo_push.2.1 25 = .ok (.iload_n 2, 1) := by decide +kernel
theorem d_Mo_push_26 : decode m_Mo_push.2.1 26 = .ok (.iastore, 1) := by decide +kernel
theorem d_Mo_push_27 : decode m_Mo_push.2.1 27 = .ok (.aload_n 0, 1) := by decide +kernel
theorem d_Mo_push_28 : decode m_Mo_push.2.1 28 = .ok (.getfield 68, 3) := by decide +kernel
theorem d_Mo_push_31 : decode m_Mo_push.2.1 31 = .ok (.iload 4, 2) := by decide +kernel
theorem d_Mo_push_33 : decode m_Mo_push.2.1 33 = .ok (.iconst 2, 1) := by decide +kernel
theorem d_Mo_push_34 : decode m_Mo_push.2.1 34 = .ok (.iadd, 1) := by decide +kernel
theorem d_Mo_push_35 : decode m_Mo_push.2.1 35 = .ok (.iload_n 3, 1) := by decide +kernel
theorem d_Mo_push_36 : decode m_Mo_push.2.1 36 = .ok (.iastore, 1) := by decide +kernel
theorem d_Mo_push_37 : decode m_Mo_push.2.1 37 = .ok (.iconst 0, 1) := by decide +kernel
theorem d_Mo_push_38 : decode m_Mo_push.2.1 38 = .ok (.istore 5, 2) := by decide +kernel
theorem d_Mo_push_40 : decode m_Mo_push.2.1 40 = .ok (.iload 5, 2) := by decide +kernel
theorem d_Mo_push_42 : decode m_Mo_push.2.1 42 = .ok (.bipush (6), 2) := by decide +kernel
theorem d_Mo_push_44 : decode m_Mo_push.2.1 44 = .ok (.if_icmp .ge (28), 3) := by decide +kernel
theorem d_Mo_push_47 : decode m_Mo_push.2.1 47 = .ok (.aload_n 0, 1) := by decide +kernel
theorem d_Mo_push_48 : decode m_Mo_push.2.1 48 = .ok (.getfield 68, 3) := by decide +kernel
theorem d_Mo_push_51 : decode m_Mo_push.2.1 51 = .ok (.iload 4, 2) := by decide +kernel
theorem d_Mo_push_53 : decode m_Mo_push.2.1 53 = .ok (.iconst 3, 1) := by decide +kernel
theorem d_Mo_push_54 : decode m_Mo_push.2.1 54 = .ok (.iadd, 1) := by decide +kernel
theorem d_Mo_push_55 : decode m_Mo_push.2.1 55 = .ok (.iload 5, 2) := by decide +kernel
theorem d_Mo_push_57 : decode m_Mo_push.2.1 57 = .ok (.iadd, 1) := by decide +kernel
theorem d_Mo_push_58 : decode m_Mo_push.2.1 58 = .ok (.aload_n 0, 1) := by decide +kernel
theorem d_Mo_push_59 : decode m_Mo_push.2.1 59 = .ok (.getfield 65, 3) := by decide +kernel
theorem d_Mo_push_62 : decode m_Mo_push.2.1 62 = .ok (.iload 5, 2) := by decide +kernel
theorem d_Mo_push_64 : decode m_Mo_push.2.1 64 = .ok (.iaload, 1) := by decide +kernel
theorem d_Mo_push_65 : decode m_Mo_push.2.1 65 = .ok (.iastore, 1) := by decide +kernel
theorem d_Mo_push_66 : decode m_Mo_push.2.1 66 = .ok (.iinc 5 (1), 3) := by decide +kernel
theorem d_Mo_push_69 : decode m_Mo_push.2.1 69 = .ok (.goto (-29), 3) := by decide +kernel
theorem d_Mo_push_72 : decode m_Mo_push.2.1 72 = .ok (.aload_n 0, 1) := by decide +kernel
theorem d_Mo_push_73 : decode m_Mo_push.2.1 73 = .ok (.dup, 1) := by decide +kernel
theorem d_Mo_push_74 : decode m_Mo_push.2.1 74 = .ok (.getfield 163, 3) := by decide +kernel
theorem d_Mo_push_77 : decode m_Mo_push.2.1 77 = .ok (.iconst 1, 1) := by decide +kernel
theorem d_Mo_push_78 : decode m_Mo_push.2.1 78 = .ok (.iadd, 1) := by decide +kernel
theorem d_Mo_push_79 : decode m_Mo_push.2.1 79 = .ok (.putfield 163, 3) := by decide +kernel
theorem d_Mo_push_82 : decode m_Mo_push.2.1 82 = .ok (.return_, 1) := by decide +kernel
theorem d_Mo_step_0 : decode m_Mo_step.2.1 0 = .ok (.aload_n 0, 1) := by decide +kernel
theorem d_Mo_step_1 : decode m_Mo_step.2.1 1 = .ok (.getfield 166, 3) := by decide +kernel
theorem d_Mo_step_4 : decode m_Mo_step.2.1 4 = .ok (.aload_n 0, 1) := by decide +kernel
theorem d_Mo_step_5 : decode m_Mo_step.2.1 5 = .ok (.getfield 125, 3) := by decide +kernel
theorem d_Mo_step_8 : decode m_Mo_step.2.1 8 = .ok (.if_icmp .ne (10), 3) := by decide +kernel
theorem d_Mo_step_11 : decode m_Mo_step.2.1 11 = .ok (.aload_n 0, 1) := by decide +kernel
theorem d_Mo_step_12 : decode m_Mo_step.2.1 12 = .ok (.iconst 1, 1) := by decide +kernel
theorem d_Mo_step_13 : decode m_Mo_step.2.1 13 = .ok (.putfield 169, 3) := by decide +kernel
theorem d_Mo_step_16 : decode m_Mo_step.2.1 16 = .ok (.iconst 0, 1) := by decide +kernel
theorem d_Mo_step_17 : decode m_Mo_step.2.1 17 = .ok (.ireturn, 1) := by decide +kernel
theorem d_Mo_step_18 : decode m_Mo_step.2.1 18 = .ok (.aload_n 0, 1) := by decide +kernel
theorem d_Mo_step_19 : decode m_Mo_step.2.1 19 = .ok (.dup, 1) := by decide +kernel
theorem d_Mo_step_20 : decode m_Mo_step.2.1 20 = .ok (.getfield 166, 3) := by decide +kernel
theorem d_Mo_step_23 : decode m_Mo_step.2.1 23 = .ok (.iconst 1, 1) := by decide +kernel
theorem d_Mo_step_24 : decode m_Mo_step.2.1 24 = .ok (.iadd, 1) := by decide +kernel
theorem d_Mo_step_25 : decode m_Mo_step.2.1 25 = .ok (.putfield 166, 3) := by decide +kernel
theorem d_Mo_step_28 : decode m_Mo_step.2.1 28 = .ok (.iconst 1, 1) := by decide +kernel
theorem d_Mo_step_29 : decode m_Mo_step.2.1 29 = .ok (.ireturn, 1) := by decide +kernel
theorem d_Mo_fits_0 : decode m_Mo_fits.2.1 0 = .ok (.aload_n 0, 1) := by decide +kernel
theorem d_Mo_fits_1 : decode m_Mo_fits.2.1 1 = .ok (.iload_n 1, 1) := by decide +kernel
theorem d_Mo_fits_2 : decode m_Mo_fits.2.1 2 = .ok (.iload_n 2, 1) := by decide +kernel
theorem d_Mo_fits_3 : decode m_Mo_fits.2.1 3 = .ok (.invokevirtual 132, 3) := by decide +kernel
theorem d_Mo_fits_6 : decode m_Mo_fits.2.1 6 = .ok (.istore 5, 2) := by decide +kernel
theorem d_Mo_fits_8 : decode m_Mo_fits.2.1 8 = .ok (.aload_n 0, 1) := by decide +kernel
theorem d_Mo_fits_9 : decode m_Mo_fits.2.1 9 = .ok (.iload_n 1, 1) := by decide +kernel
theorem d_Mo_fits_10 : decode m_Mo_fits.2.1 10 = .ok (.iload_n 2, 1) := by decide +kernel
theorem d_Mo_fits_11 : decode m_Mo_fits.2.1 11 = .ok (.invokevirtual 143, 3) := by decide +kernel
theorem d_Mo_fits_14 : decode m_Mo_fits.2.1 14 = .ok (.ifCond .eq (95), 3) := by decide +kernel
theorem d_Mo_fits_17 : decode m_Mo_fits.2.1 17 = .ok (.aload_n 0, 1) := by decide +kernel
theorem d_Mo_fits_18 : decode m_Mo_fits.2.1 18 = .ok (.iload_n 1, 1) := by decide +kernel
theorem d_Mo_fits_19 : decode m_Mo_fits.2.1 19 = .ok (.iload_n 2, 1) := by decide +kernel
theorem d_Mo_fits_20 : decode m_Mo_fits.2.1 20 = .ok (.iconst 1, 1) := by decide +kernel
theorem d_Mo_fits_21 : decode m_Mo_fits.2.1 21 = .ok (.iadd, 1) := by decide +kernel
theorem d_Mo_fits_22 : decode m_Mo_fits.2.1 22 = .ok (.invokevirtual 132, 3) := by decide +kernel
theorem d_Mo_fits_25 : decode m_Mo_fits.2.1 25 = .ok (.bipush (49), 2) := by decide +kernel
theorem d_Mo_fits_27 : decode m_Mo_fits.2.1 27 = .ok (.isub, 1) := by decide +kernel
theorem d_Mo_fits_28 : decode m_Mo_fits.2.1 28 = .ok (.istore 6, 2) := by decide +kernel
theorem d_Mo_fits_30 : decode m_Mo_fits.2.1 30 = .ok (.iload 4, 2) := by decide +kernel
theorem d_Mo_fits_32 : decode m_Mo_fits.2.1 32 = .ok (.istore 7, 2) := by decide +kernel
theorem d_Mo_fits_34 : decode m_Mo_fits.2.1 34 = .ok (.iconst 0, 1) := by decide +kernel
theorem d_Mo_fits_35 : decode m_Mo_fits.2.1 35 = .ok (.istore 8, 2) := by decide +kernel
theorem d_Mo_fits_37 : decode m_Mo_fits.2.1 37 = .ok (.iload 8, 2) := by decide +kernel
theorem d_Mo_fits_39 : decode m_Mo_fits.2.1 39 = .ok (.aload_n 0, 1) := by decide +kernel
theorem d_Mo_fits_40 : decode m_Mo_fits.2.1 40 = .ok (.getfield 71, 3) := by decide +kernel
theorem d_Mo_fits_43 : decode m_Mo_fits.2.1 43 = .ok (.iload 6, 2) := by decide +kernel
theorem d_Mo_fits_45 : decode m_Mo_fits.2.1 45 = .ok (.iaload, 1) := by decide +kernel
theorem d_Mo_fits_46 : decode m_Mo_fits.2.1 46 = .ok (.if_icmp .ge (60), 3) := by decide +kernel
theorem d_Mo_fits_49 : decode m_Mo_fits.2.1 49 = .ok (.aload_n 0, 1) := by decide +kernel
theorem d_Mo_fits_50 : decode m_Mo_fits.2.1 50 = .ok (.invokevirtual 173, 3) := by decide +kernel
theorem d_Mo_fits_53 : decode m_Mo_fits.2.1 53 = .ok (.ifCond .eq (42), 3) := by decide +kernel
theorem d_Mo_fits_56 : decode m_Mo_fits.2.1 56 = .ok (.iload 7, 2) := by decide +kernel
theorem d_Mo_fits_58 : decode m_Mo_fits.2.1 58 = .ok (.aload_n 0, 1) := by decide +kernel
theorem d_Mo_fits_59 : decode m_Mo_fits.2.1 59 = .ok (.getfield 77, 3) := by decide +kernel
theorem d_Mo_fits_62 : decode m_Mo_fits.2.1 62 = .ok (.iload_n 3, 1) := by decide +kernel
theorem d_Mo_fits_63 : decode m_Mo_fits.2.1 63 = .ok (.iaload, 1) := by decide +kernel
theorem d_Mo_fits_64 : decode m_Mo_fits.2.1 64 = .ok (.if_icmp .ge (31), 3) := by decide +kernel
theorem d_Mo_fits_67 : decode m_Mo_fits.2.1 67 = .ok (.aload_n 0, 1) := by decide +kernel
theorem d_Mo_fits_68 : decode m_Mo_fits.2.1 68 = .ok (.getfield 80, 3) := by decide +kernel
theorem d_Mo_fits_71 : decode m_Mo_fits.2.1 71 = .ok (.bipush (24), 2) := by decide +kernel
theorem d_Mo_fits_73 : decode m_Mo_fits.2.1 73 = .ok (.iload_n 3, 1) := by decide +kernel
theorem d_Mo_fits_74 : decode m_Mo_fits.2.1 74 = .ok (.imul, 1) := by decide +kernel
theorem d_Mo_fits_75 : decode m_Mo_fits.2.1 75 = .ok (.iload 7, 2) := by decide +kernel
theorem d_Mo_fits_77 : decode m_Mo_fits.2.1 77 = .ok (.iadd, 1) := by decide +kernel
theorem d_Mo_fits_78 : decode m_Mo_fits.2.1 78 = .ok (.iaload, 1) := by decide +kernel
theorem d_Mo_fits_79 : decode m_Mo_fits.2.1 79 = .ok (.aload_n 0, 1) := by decide +kernel
theorem d_Mo_fits_80 : decode m_Mo_fits.2.1 80 = .ok (.getfield 74, 3) := by decide +kernel
theorem d_Mo_fits_83 : decode m_Mo_fits.2.1 83 = .ok (.bipush (24), 2) := by decide +kernel
theorem d_Mo_fits_85 : decode m_Mo_fits.2.1 85 = .ok (.iload 6, 2) := by decide +kernel
theorem d_Mo_fits_87 : decode m_Mo_fits.2.1 87 = .ok (.imul, 1) := by decide +kernel
theorem d_Mo_fits_88 : decode m_Mo_fits.2.1 88 = .ok (.iload 8, 2) := by decide +kernel
theorem d_Mo_fits_90 : decode m_Mo_fits.2.1 90 = .ok (.iadd, 1) := by decide +kernel
theorem d_Mo_fits_91 : decode m_Mo_fits.2.1 91 = .ok (.iaload, 1) := by decide +kernel
theorem d_Mo_fits_92 : decode m_Mo_fits.2.1 92 = .ok (.if_icmp .eq (5), 3) := by decide +kernel
theorem d_Mo_fits_95 : decode m_Mo_fits.2.1 95 = .ok (.iconst (-1), 1) := by decide +kernel
theorem d_Mo_fits_96 : decode m_Mo_fits.2.1 96 = .ok (.ireturn, 1) := by decide +kernel
theorem d_Mo_fits_97 : decode m_Mo_fits.2.1 97 = .ok (.iinc 7 (1), 3) := by decide +kernel
theorem d_Mo_fits_100 : decode m_Mo_fits.2.1 100 = .ok (.iinc 8 (1), 3) := by decide +kernel
theorem d_Mo_fits_103 : decode m_Mo_fits.2.1 103 = .ok (.goto (-66), 3) := by decide +kernel
theorem d_Mo_fits_106 : decode m_Mo_fits.2.1 106 = .ok (.iload 7, 2) := by decide +kernel
theorem d_Mo_fits_108 : decode m_Mo_fits.2.1 108 = .ok (.ireturn, 1) := by decide +kernel
theorem d_Mo_fits_109 : decode m_Mo_fits.2.1 109 = .ok (.aload_n 0, 1) := by decide +kernel
theorem d_Mo_fits_110 : decode m_Mo_fits.2.1 110 = .ok (.invokevirtual 173, 3) := by decide +kernel
theorem d_Mo_fits_113 : decode m_Mo_fits.2.1 113 = .ok (.ifCond .ne (5), 3) := by decide +kernel
theorem d_Mo_fits_116 : decode m_Mo_fits.2.1 116 = .ok (.iconst (-1), 1) := by decide +kernel
theorem d_Mo_fits_117 : decode m_Mo_fits.2.1 117 = .ok (.ireturn, 1) := by decide +kernel
theorem d_Mo_fits_118 : decode m_Mo_fits.2.1 118 = .ok (.iload 5, 2) := by decide +kernel
theorem d_Mo_fits_120 : decode m_Mo_fits.2.1 120 = .ok (.bipush (94), 2) := by decide +kernel
theorem d_Mo_fits_122 : decode m_Mo_fits.2.1 122 = .ok (.if_icmp .eq (10), 3) := by decide +kernel
theorem d_Mo_fits_125 : decode m_Mo_fits.2.1 125 = .ok (.iload 5, 2) := by decide +kernel
theorem d_Mo_fits_127 : decode m_Mo_fits.2.1 127 = .ok (.bipush (36), 2) := by decide +kernel
theorem d_Mo_fits_129 : decode m_Mo_fits.2.1 129 = .ok (.if_icmp .ne (32), 3) := by decide +kernel
theorem d_Mo_fits_132 : decode m_Mo_fits.2.1 132 = .ok (.iload 4, 2) := by decide +kernel
theorem d_Mo_fits_134 : decode m_Mo_fits.2.1 134 = .ok (.iload 5, 2) := by decide +kernel
theorem d_Mo_fits_136 : decode m_Mo_fits.2.1 136 = .ok (.bipush (94), 2) := by decide +kernel
theorem d_Mo_fits_138 : decode m_Mo_fits.2.1 138 = .ok (.if_icmp .ne (7), 3) := by decide +kernel
theorem d_Mo_fits_141 : decode m_Mo_fits.2.1 141 = .ok (.iconst 0, 1) := by decide +kernel
theorem d_Mo_fits_142 : decode m_Mo_fits.2.1 142 = .ok (.goto (9), 3) := by decide +kernel
theorem d_Mo_fits_145 : decode m_Mo_fits.2.1 145 = .ok (.aload_n 0, 1) := by decide +kernel
theorem d_Mo_fits_146 : decode m_Mo_fits.2.1 146 = .ok (.getfield 77, 3) := by decide +kernel
theorem d_Mo_fits_149 : decode m_Mo_fits.2.1 149 = .ok (.iload_n 3, 1) := by decide +kernel
theorem d_Mo_fits_150 : decode m_Mo_fits.2.1 150 = .ok (.iaload, 1) := by decide +kernel
theorem d_Mo_fits_151 : decode m_Mo_fits.2.1 151 = .ok (.if_icmp .ne (8), 3) := by decide +kernel
theorem d_Mo_fits_154 : decode m_Mo_fits.2.1 154 = .ok (.iload 4, 2) := by decide +kernel
theorem d_Mo_fits_156 : decode m_Mo_fits.2.1 156 = .ok (.goto (4), 3) := by decide +kernel
theorem d_Mo_fits_159 : decode m_Mo_fits.2.1 159 = .ok (.iconst (-1), 1) := by decide +kernel
theorem d_Mo_fits_160 : decode m_Mo_fits.2.1 160 = .ok (.ireturn, 1) := by decide +kernel
theorem d_Mo_fits_161 : decode m_Mo_fits.2.1 161 = .ok (.iload 4, 2) := by decide +kernel
theorem d_Mo_fits_163 : decode m_Mo_fits.2.1 163 = .ok (.aload_n 0, 1) := by decide +kernel
theorem d_Mo_fits_164 : decode m_Mo_fits.2.1 164 = .ok (.getfield 77, 3) := by decide +kernel
theorem d_Mo_fits_167 : decode m_Mo_fits.2.1 167 = .ok (.iload_n 3, 1) := by decide +kernel
theorem d_Mo_fits_168 : decode m_Mo_fits.2.1 168 = .ok (.iaload, 1) := by decide +kernel
theorem d_Mo_fits_169 : decode m_Mo_fits.2.1 169 = .ok (.if_icmp .lt (5), 3) := by decide +kernel
theorem d_Mo_fits_172 : decode m_Mo_fits.2.1 172 = .ok (.iconst (-1), 1) := by decide +kernel
theorem d_Mo_fits_173 : decode m_Mo_fits.2.1 173 = .ok (.ireturn, 1) := by decide +kernel
theorem d_Mo_fits_174 : decode m_Mo_fits.2.1 174 = .ok (.aload_n 0, 1) := by decide +kernel
theorem d_Mo_fits_175 : decode m_Mo_fits.2.1 175 = .ok (.getfield 80, 3) := by decide +kernel
theorem d_Mo_fits_178 : decode m_Mo_fits.2.1 178 = .ok (.bipush (24), 2) := by decide +kernel
theorem d_Mo_fits_180 : decode m_Mo_fits.2.1 180 = .ok (.iload_n 3, 1) := by decide +kernel
theorem d_Mo_fits_181 : decode m_Mo_fits.2.1 181 = .ok (.imul, 1) := by decide +kernel
theorem d_Mo_fits_182 : decode m_Mo_fits.2.1 182 = .ok (.iload 4, 2) := by decide +kernel
theorem d_Mo_fits_184 : decode m_Mo_fits.2.1 184 = .ok (.iadd, 1) := by decide +kernel
theorem d_Mo_fits_185 : decode m_Mo_fits.2.1 185 = .ok (.iaload, 1) := by decide +kernel
theorem d_Mo_fits_186 : decode m_Mo_fits.2.1 186 = .ok (.istore 6, 2) := by decide +kernel
theorem d_Mo_fits_188 : decode m_Mo_fits.2.1 188 = .ok (.iload 5, 2) := by decide +kernel
theorem d_Mo_fits_190 : decode m_Mo_fits.2.1 190 = .ok (.bipush (46), 2) := by decide +kernel
theorem d_Mo_fits_192 : decode m_Mo_fits.2.1 192 = .ok (.if_icmp .eq (54), 3) := by decide +kernel
theorem d_Mo_fits_195 : decode m_Mo_fits.2.1 195 = .ok (.iload 5, 2) := by decide +kernel
theorem d_Mo_fits_197 : decode m_Mo_fits.2.1 197 = .ok (.bipush (91), 2) := by decide +kernel
theorem d_Mo_fits_199 : decode m_Mo_fits.2.1 199 = .ok (.if_icmp .ne (17), 3) := by decide +kernel
theorem d_Mo_fits_202 : decode m_Mo_fits.2.1 202 = .ok (.aload_n 0, 1) := by decide +kernel
theorem d_Mo_fits_203 : decode m_Mo_fits.2.1 203 = .ok (.iload_n 1, 1) := by decide +kernel
theorem d_Mo_fits_204 : decode m_Mo_fits.2.1 204 = .ok (.iload_n 2, 1) := by decide +kernel
theorem d_Mo_fits_205 : decode m_Mo_fits.2.1 205 = .ok (.iload 6, 2) := by decide +kernel
theorem d_Mo_fits_207 : decode m_Mo_fits.2.1 207 = .ok (.invokevirtual 177, 3) := by decide +kernel
theorem d_Mo_fits_210 : decode m_Mo_fits.2.1 210 = .ok (.ifCond .eq (40), 3) := by decide +kernel
theorem d_Mo_fits_213 : decode m_Mo_fits.2.1 213 = .ok (.goto (33), 3) := by decide +kernel
theorem d_Mo_fits_216 : decode m_Mo_fits.2.1 216 = .ok (.iload 5, 2) := by decide +kernel
theorem d_Mo_fits_218 : decode m_Mo_fits.2.1 218 = .ok (.bipush (92), 2) := by decide +kernel
theorem d_Mo_fits_220 : decode m_Mo_fits.2.1 220 = .ok (.if_icmp .ne (19), 3) := by decide +kernel
theorem d_Mo_fits_223 : decode m_Mo_fits.2.1 223 = .ok (.aload_n 0, 1) := by decide +kernel
theorem d_Mo_fits_224 : decode m_Mo_fits.2.1 224 = .ok (.iload_n 1, 1) := by decide +kernel
theorem d_Mo_fits_225 : decode m_Mo_fits.2.1 225 = .ok (.iload_n 2, 1) := by decide +kernel
theorem d_Mo_fits_226 : decode m_Mo_fits.2.1 226 = .ok (.iconst 1, 1) := by decide +kernel
theorem d_Mo_fits_227 : decode m_Mo_fits.2.1 227 = .ok (.iadd, 1) := by decide +kernel
theorem d_Mo_fits_228 : decode m_Mo_fits.2.1 228 = .ok (.invokevirtual 132, 3) := by decide +kernel
theorem d_Mo_fits_231 : decode m_Mo_fits.2.1 231 = .ok (.iload 6, 2) := by decide +kernel
theorem d_Mo_fits_233 : decode m_Mo_fits.2.1 233 = .ok (.if_icmp .ne (17), 3) := by decide +kernel
theorem d_Mo_fits_236 : decode m_Mo_fits.2.1 236 = .ok (.goto (10), 3) := by decide +kernel
theorem d_Mo_fits_239 : decode m_Mo_fits.2.1 239 = .ok (.iload 5, 2) := by decide +kernel
theorem d_Mo_fits_241 : decode m_Mo_fits.2.1 241 = .ok (.iload 6, 2) := by decide +kernel
theorem d_Mo_fits_243 : decode m_Mo_fits.2.1 243 = .ok (.if_icmp .ne (7), 3) := by decide +kernel
theorem d_Mo_fits_246 : decode m_Mo_fits.2.1 246 = .ok (.iconst 1, 1) := by decide +kernel
theorem d_Mo_fits_247 : decode m_Mo_fits.2.1 247 = .ok (.goto (4), 3) := by decide +kernel
theorem d_Mo_fits_250 : decode m_Mo_fits.2.1 250 = .ok (.iconst 0, 1) := by decide +kernel
theorem d_Mo_fits_251 : decode m_Mo_fits.2.1 251 = .ok (.istore 7, 2) := by decide +kernel
theorem d_Mo_fits_253 : decode m_Mo_fits.2.1 253 = .ok (.iload 7, 2) := by decide +kernel
theorem d_Mo_fits_255 : decode m_Mo_fits.2.1 255 = .ok (.ifCond .eq (10), 3) := by decide +kernel
theorem d_Mo_fits_258 : decode m_Mo_fits.2.1 258 = .ok (.iload 4, 2) := by decide +kernel
theorem d_Mo_fits_260 : decode m_Mo_fits.2.1 260 = .ok (.iconst 1, 1) := by decide +kernel
theorem d_Mo_fits_261 : decode m_Mo_fits.2.1 261 = .ok (.iadd, 1) := by decide +kernel
theorem d_Mo_fits_262 : decode m_Mo_fits.2.1 262 = .ok (.goto (4), 3) := by decide +kernel
theorem d_Mo_fits_265 : decode m_Mo_fits.2.1 265 = .ok (.iconst (-1), 1) := by decide +kernel
theorem d_Mo_fits_266 : decode m_Mo_fits.2.1 266 = .ok (.ireturn, 1) := by decide +kernel
theorem d_Mo_ended_0 : decode m_Mo_ended.2.1 0 = .ok (.aload_n 0, 1) := by decide +kernel
theorem d_Mo_ended_1 : decode m_Mo_ended.2.1 1 = .ok (.iload_n 1, 1) := by decide +kernel
theorem d_Mo_ended_2 : decode m_Mo_ended.2.1 2 = .ok (.iload_n 2, 1) := by decide +kernel
theorem d_Mo_ended_3 : decode m_Mo_ended.2.1 3 = .ok (.invokevirtual 132, 3) := by decide +kernel
theorem d_Mo_ended_6 : decode m_Mo_ended.2.1 6 = .ok (.istore_n 3, 1) := by decide +kernel
theorem d_Mo_ended_7 : decode m_Mo_ended.2.1 7 = .ok (.iload_n 3, 1) := by decide +kernel
theorem d_Mo_ended_8 : decode m_Mo_ended.2.1 8 = .ok (.ifCond .eq (15), 3) := by decide +kernel
theorem d_Mo_ended_11 : decode m_Mo_ended.2.1 11 = .ok (.iload_n 3, 1) := by decide +kernel
theorem d_Mo_ended_12 : decode m_Mo_ended.2.1 12 = .ok (.bipush (124), 2) := by decide +kernel
theorem d_Mo_ended_14 : decode m_Mo_ended.2.1 14 = .ok (.if_icmp .eq (9), 3) := by decide +kernel
theorem d_Mo_ended_17 : decode m_Mo_ended.2.1 17 = .ok (.iload_n 3, 1) := by decide +kernel
theorem d_Mo_ended_18 : decode m_Mo_ended.2.1 18 = .ok (.bipush (41), 2) := by decide +kernel
theorem d_Mo_ended_20 : decode m_Mo_ended.2.1 20 = .ok (.if_icmp .ne (7), 3) := by decide +kernel
theorem d_Mo_ended_23 : decode m_Mo_ended.2.1 23 = .ok (.iconst 1, 1) := by decide +kernel
theorem d_Mo_ended_24 : decode m_Mo_ended.2.1 24 = .ok (.goto (4), 3) := by decide +kernel
theorem d_Mo_ended_27 : decode m_Mo_ended.2.1 27 = .ok (.iconst 0, 1) := by decide +kernel
theorem d_Mo_ended_28 : decode m_Mo_ended.2.1 28 = .ok (.ireturn, 1) := by decide +kernel
