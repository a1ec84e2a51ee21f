/-! Instructions -/
theorem d_Mo_init_0 : decode m_Mo_init.2.1 0 = .ok (.aload_n 0, 1) := by decide +kernel
theorem d_Mo_init_1 : decode m_Mo_init.2.1 1 = .ok (.invokespecial 1, 3) := by decide +kernel
theorem d_Mo_init_4 : decode m_Mo_init.2.1 4 = .ok (.aload_n 0, 1) := by decide +kernel
theorem d_Mo_init_5 : decode m_Mo_init.2.1 5 = .ok (.bipush (40), 2) := by decide +kernel
theorem d_Mo_init_7 : decode m_Mo_init.2.1 7 = .ok (.newarray .int, 2) := by decide +kernel
theorem d_Mo_init_9 : decode m_Mo_init.2.1 9 = .ok (.putfield 7, 3) := by decide +kernel
theorem d_Mo_init_12 : decode m_Mo_init.2.1 12 = .ok (.aload_n 0, 1) := by decide +kernel
theorem d_Mo_init_13 : decode m_Mo_init.2.1 13 = .ok (.bipush (10), 2) := by decide +kernel
theorem d_Mo_init_15 : decode m_Mo_init.2.1 15 = .ok (.newarray .boolean, 2) := by decide +kernel
theorem d_Mo_init_17 : decode m_Mo_init.2.1 17 = .ok (.putfield 13, 3) := by decide +kernel
theorem d_Mo_init_20 : decode m_Mo_init.2.1 20 = .ok (.aload_n 0, 1) := by decide +kernel
theorem d_Mo_init_21 : decode m_Mo_init.2.1 21 = .ok (.bipush (10), 2) := by decide +kernel
theorem d_Mo_init_23 : decode m_Mo_init.2.1 23 = .ok (.newarray .int, 2) := by decide +kernel
theorem d_Mo_init_25 : decode m_Mo_init.2.1 25 = .ok (.putfield 17, 3) := by decide +kernel
theorem d_Mo_init_28 : decode m_Mo_init.2.1 28 = .ok (.aload_n 0, 1) := by decide +kernel
theorem d_Mo_init_29 : decode m_Mo_init.2.1 29 = .ok (.bipush (10), 2) := by decide +kernel
theorem d_Mo_init_31 : decode m_Mo_init.2.1 31 = .ok (.newarray .int, 2) := by decide +kernel
theorem d_Mo_init_33 : decode m_Mo_init.2.1 33 = .ok (.putfield 20, 3) := by decide +kernel
theorem d_Mo_init_36 : decode m_Mo_init.2.1 36 = .ok (.aload_n 0, 1) := by decide +kernel
theorem d_Mo_init_37 : decode m_Mo_init.2.1 37 = .ok (.bipush (10), 2) := by decide +kernel
theorem d_Mo_init_39 : decode m_Mo_init.2.1 39 = .ok (.newarray .int, 2) := by decide +kernel
theorem d_Mo_init_41 : decode m_Mo_init.2.1 41 = .ok (.putfield 23, 3) := by decide +kernel
theorem d_Mo_init_44 : decode m_Mo_init.2.1 44 = .ok (.aload_n 0, 1) := by decide +kernel
theorem d_Mo_init_45 : decode m_Mo_init.2.1 45 = .ok (.bipush (22), 2) := by decide +kernel
theorem d_Mo_init_47 : decode m_Mo_init.2.1 47 = .ok (.newarray .int, 2) := by decide +kernel
theorem d_Mo_init_49 : decode m_Mo_init.2.1 49 = .ok (.putfield 26, 3) := by decide +kernel
theorem d_Mo_init_52 : decode m_Mo_init.2.1 52 = .ok (.aload_n 0, 1) := by decide +kernel
theorem d_Mo_init_53 : decode m_Mo_init.2.1 53 = .ok (.sipush (462), 3) := by decide +kernel
theorem d_Mo_init_56 : decode m_Mo_init.2.1 56 = .ok (.newarray .int, 2) := by decide +kernel
theorem d_Mo_init_58 : decode m_Mo_init.2.1 58 = .ok (.putfield 29, 3) := by decide +kernel
theorem d_Mo_init_61 : decode m_Mo_init.2.1 61 = .ok (.aload_n 0, 1) := by decide +kernel
theorem d_Mo_init_62 : decode m_Mo_init.2.1 62 = .ok (.sipush (462), 3) := by decide +kernel
theorem d_Mo_init_65 : decode m_Mo_init.2.1 65 = .ok (.newarray .int, 2) := by decide +kernel
theorem d_Mo_init_67 : decode m_Mo_init.2.1 67 = .ok (.putfield 32, 3) := by decide +kernel
theorem d_Mo_init_70 : decode m_Mo_init.2.1 70 = .ok (.aload_n 0, 1) := by decide +kernel
theorem d_Mo_init_71 : decode m_Mo_init.2.1 71 = .ok (.sipush (462), 3) := by decide +kernel
theorem d_Mo_init_74 : decode m_Mo_init.2.1 74 = .ok (.newarray .int, 2) := by decide +kernel
theorem d_Mo_init_76 : decode m_Mo_init.2.1 76 = .ok (.putfield 35, 3) := by decide +kernel
theorem d_Mo_init_79 : decode m_Mo_init.2.1 79 = .ok (.aload_n 0, 1) := by decide +kernel
theorem d_Mo_init_80 : decode m_Mo_init.2.1 80 = .ok (.sipush (462), 3) := by decide +kernel
theorem d_Mo_init_83 : decode m_Mo_init.2.1 83 = .ok (.newarray .int, 2) := by decide +kernel
theorem d_Mo_init_85 : decode m_Mo_init.2.1 85 = .ok (.putfield 38, 3) := by decide +kernel
theorem d_Mo_init_88 : decode m_Mo_init.2.1 88 = .ok (.aload_n 0, 1) := by decide +kernel
theorem d_Mo_init_89 : decode m_Mo_init.2.1 89 = .ok (.sipush (462), 3) := by decide +kernel
theorem d_Mo_init_92 : decode m_Mo_init.2.1 92 = .ok (.newarray .int, 2) := by decide +kernel
theorem d_Mo_init_94 : decode m_Mo_init.2.1 94 = .ok (.putfield 41, 3) := by decide +kernel
theorem d_Mo_init_97 : decode m_Mo_init.2.1 97 = .ok (.aload_n 0, 1) := by decide +kernel
theorem d_Mo_init_98 : decode m_Mo_init.2.1 98 = .ok (.sipush (462), 3) := by decide +kernel
theorem d_Mo_init_101 : decode m_Mo_init.2.1 101 = .ok (.newarray .int, 2) := by decide +kernel
theorem d_Mo_init_103 : decode m_Mo_init.2.1 103 = .ok (.putfield 44, 3) := by decide +kernel
theorem d_Mo_init_106 : decode m_Mo_init.2.1 106 = .ok (.aload_n 0, 1) := by decide +kernel
theorem d_Mo_init_107 : decode m_Mo_init.2.1 107 = .ok (.sipush (462), 3) := by decide +kernel
theorem d_Mo_init_110 : decode m_Mo_init.2.1 110 = .ok (.newarray .int, 2) := by decide +kernel
theorem d_Mo_init_112 : decode m_Mo_init.2.1 112 = .ok (.putfield 47, 3) := by decide +kernel
theorem d_Mo_init_115 : decode m_Mo_init.2.1 115 = .ok (.aload_n 0, 1) := by decide +kernel
theorem d_Mo_init_116 : decode m_Mo_init.2.1 116 = .ok (.bipush (22), 2) := by decide +kernel
theorem d_Mo_init_118 : decode m_Mo_init.2.1 118 = .ok (.newarray .int, 2) := by decide +kernel
theorem d_Mo_init_120 : decode m_Mo_init.2.1 120 = .ok (.putfield 50, 3) := by decide +kernel
theorem d_Mo_init_123 : decode m_Mo_init.2.1 123 = .ok (.aload_n 0, 1) := by decide +kernel
theorem d_Mo_init_124 : decode m_Mo_init.2.1 124 = .ok (.iconst 4, 1) := by decide +kernel
theorem d_Mo_init_125 : decode m_Mo_init.2.1 125 = .ok (.newarray .int, 2) := by decide +kernel
theorem d_Mo_init_127 : decode m_Mo_init.2.1 127 = .ok (.putfield 53, 3) := by decide +kernel
theorem d_Mo_init_130 : decode m_Mo_init.2.1 130 = .ok (.aload_n 0, 1) := by decide +kernel
theorem d_Mo_init_131 : decode m_Mo_init.2.1 131 = .ok (.iconst 4, 1) := by decide +kernel
theorem d_Mo_init_132 : decode m_Mo_init.2.1 132 = .ok (.newarray .int, 2) := by decide +kernel
theorem d_Mo_init_134 : decode m_Mo_init.2.1 134 = .ok (.putfield 56, 3) := by decide +kernel
theorem d_Mo_init_137 : decode m_Mo_init.2.1 137 = .ok (.aload_n 0, 1) := by decide +kernel
theorem d_Mo_init_138 : decode m_Mo_init.2.1 138 = .ok (.iconst 4, 1) := by decide +kernel
theorem d_Mo_init_139 : decode m_Mo_init.2.1 139 = .ok (.newarray .boolean, 2) := by decide +kernel
theorem d_Mo_init_141 : decode m_Mo_init.2.1 141 = .ok (.putfield 59, 3) := by decide +kernel
theorem d_Mo_init_144 : decode m_Mo_init.2.1 144 = .ok (.aload_n 0, 1) := by decide +kernel
theorem d_Mo_init_145 : decode m_Mo_init.2.1 145 = .ok (.iconst 4, 1) := by decide +kernel
theorem d_Mo_init_146 : decode m_Mo_init.2.1 146 = .ok (.newarray .boolean, 2) := by decide +kernel
theorem d_Mo_init_148 : decode m_Mo_init.2.1 148 = .ok (.putfield 62, 3) := by decide +kernel
theorem d_Mo_init_151 : decode m_Mo_init.2.1 151 = .ok (.aload_n 0, 1) := by decide +kernel
theorem d_Mo_init_152 : decode m_Mo_init.2.1 152 = .ok (.bipush (6), 2) := by decide +kernel
theorem d_Mo_init_154 : decode m_Mo_init.2.1 154 = .ok (.newarray .int, 2) := by decide +kernel
theorem d_Mo_init_156 : decode m_Mo_init.2.1 156 = .ok (.putfield 65, 3) := by decide +kernel
theorem d_Mo_init_159 : decode m_Mo_init.2.1 159 = .ok (.aload_n 0, 1) := by decide +kernel
theorem d_Mo_init_160 : decode m_Mo_init.2.1 160 = .ok (.sipush (5600), 3) := by decide +kernel
theorem d_Mo_init_163 : decode m_Mo_init.2.1 163 = .ok (.newarray .int, 2) := by decide +kernel
theorem d_Mo_init_165 : decode m_Mo_init.2.1 165 = .ok (.putfield 68, 3) := by decide +kernel
theorem d_Mo_init_168 : decode m_Mo_init.2.1 168 = .ok (.aload_n 0, 1) := by decide +kernel
theorem d_Mo_init_169 : decode m_Mo_init.2.1 169 = .ok (.iconst 2, 1) := by decide +kernel
theorem d_Mo_init_170 : decode m_Mo_init.2.1 170 = .ok (.newarray .int, 2) := by decide +kernel
theorem d_Mo_init_172 : decode m_Mo_init.2.1 172 = .ok (.putfield 71, 3) := by decide +kernel
theorem d_Mo_init_175 : decode m_Mo_init.2.1 175 = .ok (.aload_n 0, 1) := by decide +kernel
theorem d_Mo_init_176 : decode m_Mo_init.2.1 176 = .ok (.bipush (48), 2) := by decide +kernel
theorem d_Mo_init_178 : decode m_Mo_init.2.1 178 = .ok (.newarray .int, 2) := by decide +kernel
theorem d_Mo_init_180 : decode m_Mo_init.2.1 180 = .ok (.putfield 74, 3) := by decide +kernel
theorem d_Mo_init_183 : decode m_Mo_init.2.1 183 = .ok (.aload_n 0, 1) := by decide +kernel
theorem d_Mo_init_184 : decode m_Mo_init.2.1 184 = .ok (.bipush (6), 2) := by decide +kernel
theorem d_Mo_init_186 : decode m_Mo_init.2.1 186 = .ok (.newarray .int, 2) := by decide +kernel
theorem d_Mo_init_188 : decode m_Mo_init.2.1 188 = .ok (.putfield 77, 3) := by decide +kernel
theorem d_Mo_init_191 : decode m_Mo_init.2.1 191 = .ok (.aload_n 0, 1) := by decide +kernel
theorem d_Mo_init_192 : decode m_Mo_init.2.1 192 = .ok (.sipush (144), 3) := by decide +kernel
theorem d_Mo_init_195 : decode m_Mo_init.2.1 195 = .ok (.newarray .int, 2) := by decide +kernel
theorem d_Mo_init_197 : decode m_Mo_init.2.1 197 = .ok (.putfield 80, 3) := by decide +kernel
theorem d_Mo_init_200 : decode m_Mo_init.2.1 200 = .ok (.aload_n 0, 1) := by decide +kernel
theorem d_Mo_init_201 : decode m_Mo_init.2.1 201 = .ok (.bipush (6), 2) := by decide +kernel
theorem d_Mo_init_203 : decode m_Mo_init.2.1 203 = .ok (.newarray .boolean, 2) := by decide +kernel
theorem d_Mo_init_205 : decode m_Mo_init.2.1 205 = .ok (.putfield 83, 3) := by decide +kernel
theorem d_Mo_init_208 : decode m_Mo_init.2.1 208 = .ok (.aload_n 0, 1) := by decide +kernel
theorem d_Mo_init_209 : decode m_Mo_init.2.1 209 = .ok (.bipush (6), 2) := by decide +kernel
theorem d_Mo_init_211 : decode m_Mo_init.2.1 211 = .ok (.newarray .int, 2) := by decide +kernel
theorem d_Mo_init_213 : decode m_Mo_init.2.1 213 = .ok (.putfield 86, 3) := by decide +kernel
theorem d_Mo_init_216 : decode m_Mo_init.2.1 216 = .ok (.aload_n 0, 1) := by decide +kernel
theorem d_Mo_init_217 : decode m_Mo_init.2.1 217 = .ok (.sipush (144), 3) := by decide +kernel
theorem d_Mo_init_220 : decode m_Mo_init.2.1 220 = .ok (.newarray .int, 2) := by decide +kernel
theorem d_Mo_init_222 : decode m_Mo_init.2.1 222 = .ok (.putfield 89, 3) := by decide +kernel
theorem d_Mo_init_225 : decode m_Mo_init.2.1 225 = .ok (.aload_n 0, 1) := by decide +kernel
theorem d_Mo_init_226 : decode m_Mo_init.2.1 226 = .ok (.sipush (144), 3) := by decide +kernel
theorem d_Mo_init_229 : decode m_Mo_init.2.1 229 = .ok (.newarray .int, 2) := by decide +kernel
theorem d_Mo_init_231 : decode m_Mo_init.2.1 231 = .ok (.putfield 92, 3) := by decide +kernel
theorem d_Mo_init_234 : decode m_Mo_init.2.1 234 = .ok (.aload_n 0, 1) := by decide +kernel
theorem d_Mo_init_235 : decode m_Mo_init.2.1 235 = .ok (.sipush (864), 3) := by decide +kernel
theorem d_Mo_init_238 : decode m_Mo_init.2.1 238 = .ok (.newarray .int, 2) := by decide +kernel
theorem d_Mo_init_240 : decode m_Mo_init.2.1 240 = .ok (.putfield 95, 3) := by decide +kernel
theorem d_Mo_init_243 : decode m_Mo_init.2.1 243 = .ok (.aload_n 0, 1) := by decide +kernel
theorem d_Mo_init_244 : decode m_Mo_init.2.1 244 = .ok (.bipush (8), 2) := by decide +kernel
theorem d_Mo_init_246 : decode m_Mo_init.2.1 246 = .ok (.newarray .int, 2) := by decide +kernel
theorem d_Mo_init_248 : decode m_Mo_init.2.1 248 = .ok (.putfield 98, 3) := by decide +kernel
theorem d_Mo_init_251 : decode m_Mo_init.2.1 251 = .ok (.aload_n 0, 1) := by decide +kernel
theorem d_Mo_init_252 : decode m_Mo_init.2.1 252 = .ok (.bipush (40), 2) := by decide +kernel
theorem d_Mo_init_254 : decode m_Mo_init.2.1 254 = .ok (.newarray .int, 2) := by decide +kernel
theorem d_Mo_init_256 : decode m_Mo_init.2.1 256 = .ok (.putfield 101, 3) := by decide +kernel
theorem d_Mo_init_259 : decode m_Mo_init.2.1 259 = .ok (.aload_n 0, 1) := by decide +kernel
theorem d_Mo_init_260 : decode m_Mo_init.2.1 260 = .ok (.bipush (80), 2) := by decide +kernel
theorem d_Mo_init_262 : decode m_Mo_init.2.1 262 = .ok (.newarray .int, 2) := by decide +kernel
theorem d_Mo_init_264 : decode m_Mo_init.2.1 264 = .ok (.putfield 104, 3) := by decide +kernel
theorem d_Mo_init_267 : decode m_Mo_init.2.1 267 = .ok (.aload_n 0, 1) := by decide +kernel
theorem d_Mo_init_268 : decode m_Mo_init.2.1 268 = .ok (.sipush (1920), 3) := by decide +kernel
theorem d_Mo_init_271 : decode m_Mo_init.2.1 271 = .ok (.newarray .int, 2) := by decide +kernel
theorem d_Mo_init_273 : decode m_Mo_init.2.1 273 = .ok (.putfield 107, 3) := by decide +kernel
theorem d_Mo_init_276 : decode m_Mo_init.2.1 276 = .ok (.aload_n 0, 1) := by decide +kernel
theorem d_Mo_init_277 : decode m_Mo_init.2.1 277 = .ok (.bipush (20), 2) := by decide +kernel
theorem d_Mo_init_279 : decode m_Mo_init.2.1 279 = .ok (.newarray .int, 2) := by decide +kernel
theorem d_Mo_init_281 : decode m_Mo_init.2.1 281 = .ok (.putfield 110, 3) := by decide +kernel
theorem d_Mo_init_284 : decode m_Mo_init.2.1 284 = .ok (.aload_n 0, 1) := by decide +kernel
theorem d_Mo_init_285 : decode m_Mo_init.2.1 285 = .ok (.bipush (6), 2) := by decide +kernel
theorem d_Mo_init_287 : decode m_Mo_init.2.1 287 = .ok (.newarray .int, 2) := by decide +kernel
theorem d_Mo_init_289 : decode m_Mo_init.2.1 289 = .ok (.putfield 113, 3) := by decide +kernel
theorem d_Mo_init_292 : decode m_Mo_init.2.1 292 = .ok (.aload_n 0, 1) := by decide +kernel
theorem d_Mo_init_293 : decode m_Mo_init.2.1 293 = .ok (.bipush (6), 2) := by decide +kernel
theorem d_Mo_init_295 : decode m_Mo_init.2.1 295 = .ok (.newarray .int, 2) := by decide +kernel
theorem d_Mo_init_297 : decode m_Mo_init.2.1 297 = .ok (.putfield 116, 3) := by decide +kernel
theorem d_Mo_init_300 : decode m_Mo_init.2.1 300 = .ok (.aload_n 0, 1) := by decide +kernel
theorem d_Mo_init_301 : decode m_Mo_init.2.1 301 = .ok (.bipush (6), 2) := by decide +kernel
theorem d_Mo_init_303 : decode m_Mo_init.2.1 303 = .ok (.newarray .int, 2) := by decide +kernel
theorem d_Mo_init_305 : decode m_Mo_init.2.1 305 = .ok (.putfield 119, 3) := by decide +kernel
theorem d_Mo_init_308 : decode m_Mo_init.2.1 308 = .ok (.aload_n 0, 1) := by decide +kernel
theorem d_Mo_init_309 : decode m_Mo_init.2.1 309 = .ok (.bipush (6), 2) := by decide +kernel
theorem d_Mo_init_311 : decode m_Mo_init.2.1 311 = .ok (.newarray .int, 2) := by decide +kernel
theorem d_Mo_init_313 : decode m_Mo_init.2.1 313 = .ok (.putfield 122, 3) := by decide +kernel
theorem d_Mo_init_316 : decode m_Mo_init.2.1 316 = .ok (.aload_n 0, 1) := by decide +kernel
theorem d_Mo_init_317 : decode m_Mo_init.2.1 317 = .ok (.iload_n 1, 1) := by decide +kernel
theorem d_Mo_init_318 : decode m_Mo_init.2.1 318 = .ok (.bipush (10), 2) := by decide +kernel
theorem d_Mo_init_320 : decode m_Mo_init.2.1 320 = .ok (.if_icmp .ge (8), 3) := by decide +kernel
theorem d_Mo_init_323 : decode m_Mo_init.2.1 323 = .ok (.bipush (10), 2) := by decide +kernel
theorem d_Mo_init_325 : decode m_Mo_init.2.1 325 = .ok (.goto (17), 3) := by decide +kernel
theorem d_Mo_init_328 : decode m_Mo_init.2.1 328 = .ok (.iload_n 1, 1) := by decide +kernel
theorem d_Mo_init_329 : decode m_Mo_init.2.1 329 = .ok (.sipush (300), 3) := by decide +kernel
theorem d_Mo_init_332 : decode m_Mo_init.2.1 332 = .ok (.if_icmp .le (9), 3) := by decide +kernel
theorem d_Mo_init_335 : decode m_Mo_init.2.1 335 = .ok (.sipush (300), 3) := by decide +kernel
theorem d_Mo_init_338 : decode m_Mo_init.2.1 338 = .ok (.goto (4), 3) := by decide +kernel
theorem d_Mo_init_341 : decode m_Mo_init.2.1 341 = .ok (.iload_n 1, 1) := by decide +kernel
theorem d_Mo_init_342 : decode m_Mo_init.2.1 342 = .ok (.putfield 125, 3) := by decide +kernel
theorem d_Mo_init_345 : decode m_Mo_init.2.1 345 = .ok (.iconst 0, 1) := by decide +kernel
theorem d_Mo_init_346 : decode m_Mo_init.2.1 346 = .ok (.istore_n 2, 1) := by decide +kernel
theorem d_Mo_init_347 : decode m_Mo_init.2.1 347 = .ok (.iload_n 2, 1) := by decide +kernel
theorem d_Mo_init_348 : decode m_Mo_init.2.1 348 = .ok (.bipush (10), 2) := by decide +kernel
theorem d_Mo_init_350 : decode m_Mo_init.2.1 350 = .ok (.if_icmp .ge (16), 3) := by decide +kernel
theorem d_Mo_init_353 : decode m_Mo_init.2.1 353 = .ok (.aload_n 0, 1) := by decide +kernel
theorem d_Mo_init_354 : decode m_Mo_init.2.1 354 = .ok (.getfield 23, 3) := by decide +kernel
theorem d_Mo_init_357 : decode m_Mo_init.2.1 357 = .ok (.iload_n 2, 1) := by decide +kernel
theorem d_Mo_init_358 : decode m_Mo_init.2.1 358 = .ok (.iconst (-1), 1) := by decide +kernel
theorem d_Mo_init_359 : decode m_Mo_init.2.1 359 = .ok (.iastore, 1) := by decide +kernel
theorem d_Mo_init_360 : decode m_Mo_init.2.1 360 = .ok (.iinc 2 (1), 3) := by decide +kernel
theorem d_Mo_init_363 : decode m_Mo_init.2.1 363 = .ok (.goto (-16), 3) := by decide +kernel
theorem d_Mo_init_366 : decode m_Mo_init.2.1 366 = .ok (.aload_n 0, 1) := by decide +kernel
theorem d_Mo_init_367 : decode m_Mo_init.2.1 367 = .ok (.getfield 13, 3) := by decide +kernel
theorem d_Mo_init_370 : decode m_Mo_init.2.1 370 = .ok (.iconst 0, 1) := by decide +kernel
theorem d_Mo_init_371 : decode m_Mo_init.2.1 371 = .ok (.iconst 1, 1) := by decide +kernel
theorem d_Mo_init_372 : decode m_Mo_init.2.1 372 = .ok (.bastore, 1) := by decide +kernel
theorem d_Mo_init_373 : decode m_Mo_init.2.1 373 = .ok (.return_, 1) := by decide +kernel
theorem d_Mo_type_0 : decode m_Mo_type.2.1 0 = .ok (.aload_n 0, 1) := by decide +kernel
theorem d_Mo_type_1 : decode m_Mo_type.2.1 1 = .ok (.getfield 129, 3) := by decide +kernel
theorem d_Mo_type_4 : decode m_Mo_type.2.1 4 = .ok (.istore_n 3, 1) := by decide +kernel
theorem d_Mo_type_5 : decode m_Mo_type.2.1 5 = .ok (.bipush (7), 2) := by decide +kernel
theorem d_Mo_type_7 : decode m_Mo_type.2.1 7 = .ok (.istore 4, 2) := by decide +kernel
theorem d_Mo_type_9 : decode m_Mo_type.2.1 9 = .ok (.iload 4, 2) := by decide +kernel
theorem d_Mo_type_11 : decode m_Mo_type.2.1 11 = .ok (.ifCond .lt (66), 3) := by decide +kernel
theorem d_Mo_type_14 : decode m_Mo_type.2.1 14 = .ok (.lload_n 1, 1) := by decide +kernel
theorem d_Mo_type_15 : decode m_Mo_type.2.1 15 = .ok (.bipush (8), 2) := by decide +kernel
theorem d_Mo_type_17 : decode m_Mo_type.2.1 17 = .ok (.iload 4, 2) := by decide +kernel
theorem d_Mo_type_19 : decode m_Mo_type.2.1 19 = .ok (.imul, 1) := by decide +kernel
theorem d_Mo_type_20 : decode m_Mo_type.2.1 20 = .ok (.lshr, 1) := by decide +kernel
theorem d_Mo_type_21 : decode m_Mo_type.2.1 21 = .ok (.l2i, 1) := by decide +kernel
theorem d_Mo_type_22 : decode m_Mo_type.2.1 22 = .ok (.sipush (255), 3) := by decide +kernel
theorem d_Mo_type_25 : decode m_Mo_type.2.1 25 = .ok (.iand, 1) := by decide +kernel
theorem d_Mo_type_26 : decode m_Mo_type.2.1 26 = .ok (.istore 5, 2) := by decide +kernel
theorem d_Mo_type_28 : decode m_Mo_type.2.1 28 = .ok (.iload 5, 2) := by decide +kernel
theorem d_Mo_type_30 : decode m_Mo_type.2.1 30 = .ok (.ifCond .eq (25), 3) := by decide +kernel
theorem d_Mo_type_33 : decode m_Mo_type.2.1 33 = .ok (.iload 5, 2) := by decide +kernel
theorem d_Mo_type_35 : decode m_Mo_type.2.1 35 = .ok (.bipush (32), 2) := by decide +kernel
theorem d_Mo_type_37 : decode m_Mo_type.2.1 37 = .ok (.if_icmp .lt (16), 3) := by decide +kernel
theorem d_Mo_type_40 : decode m_Mo_type.2.1 40 = .ok (.iload 5, 2) := by decide +kernel
theorem d_Mo_type_42 : decode m_Mo_type.2.1 42 = .ok (.bipush (126), 2) := by decide +kernel
theorem d_Mo_type_44 : decode m_Mo_type.2.1 44 = .ok (.if_icmp .gt (9), 3) := by decide +kernel
theorem d_Mo_type_47 : decode m_Mo_type.2.1 47 = .ok (.iload_n 3, 1) := by decide +kernel
theorem d_Mo_type_48 : decode m_Mo_type.2.1 48 = .ok (.bipush (40), 2) := by decide +kernel
theorem d_Mo_type_50 : decode m_Mo_type.2.1 50 = .ok (.if_icmp .ne (5), 3) := by decide +kernel
theorem d_Mo_type_53 : decode m_Mo_type.2.1 53 = .ok (.iconst 0, 1) := by decide +kernel
theorem d_Mo_type_54 : decode m_Mo_type.2.1 54 = .ok (.ireturn, 1) := by decide +kernel
theorem d_Mo_type_55 : decode m_Mo_type.2.1 55 = .ok (.iload 5, 2) := by decide +kernel
theorem d_Mo_type_57 : decode m_Mo_type.2.1 57 = .ok (.ifCond .eq (14), 3) := by decide +kernel
theorem d_Mo_type_60 : decode m_Mo_type.2.1 60 = .ok (.aload_n 0, 1) := by decide +kernel
theorem d_Mo_type_61 : decode m_Mo_type.2.1 61 = .ok (.getfield 7, 3) := by decide +kernel
theorem d_Mo_type_64 : decode m_Mo_type.2.1 64 = .ok (.iload_n 3, 1) := by decide +kernel
theorem d_Mo_type_65 : decode m_Mo_type.2.1 65 = .ok (.iload 5, 2) := by decide +kernel
theorem d_Mo_type_67 : decode m_Mo_type.2.1 67 = .ok (.iastore, 1) := by decide +kernel
theorem d_Mo_type_68 : decode m_Mo_type.2.1 68 = .ok (.iinc 3 (1), 3) := by decide +kernel
theorem d_Mo_type_71 : decode m_Mo_type.2.1 71 = .ok (.iinc 4 (-1), 3) := by decide +kernel
theorem d_Mo_type_74 : decode m_Mo_type.2.1 74 = .ok (.goto (-65), 3) := by decide +kernel
theorem d_Mo_type_77 : decode m_Mo_type.2.1 77 = .ok (.aload_n 0, 1) := by decide +kernel
theorem d_Mo_type_78 : decode m_Mo_type.2.1 78 = .ok (.iload_n 3, 1) := by decide +kernel
theorem d_Mo_type_79 : decode m_Mo_type.2.1 79 = .ok (.putfield 129, 3) := by decide +kernel
theorem d_Mo_type_82 : decode m_Mo_type.2.1 82 = .ok (.iconst 1, 1) := by decide +kernel
theorem d_Mo_type_83 : decode m_Mo_type.2.1 83 = .ok (.ireturn, 1) := by decide +kernel
theorem d_Mo_wipe_0 : decode m_Mo_wipe.2.1 0 = .ok (.aload_n 0, 1) := by decide +kernel
theorem d_Mo_wipe_1 : decode m_Mo_wipe.2.1 1 = .ok (.iconst 0, 1) := by decide +kernel
theorem d_Mo_wipe_2 : decode m_Mo_wipe.2.1 2 = .ok (.putfield 129, 3) := by decide +kernel
theorem d_Mo_wipe_5 : decode m_Mo_wipe.2.1 5 = .ok (.return_, 1) := by decide +kernel
theorem d_Mo_quantifier_0 : decode m_Mo_quantifier.2.1 0 = .ok (.iload_n 0, 1) := by decide +kernel
theorem d_Mo_quantifier_1 : decode m_Mo_quantifier.2.1 1 = .ok (.bipush (42), 2) := by decide +kernel
theorem d_Mo_quantifier_3 : decode m_Mo_quantifier.2.1 3 = .ok (.if_icmp .eq (15), 3) := by decide +kernel
theorem d_Mo_quantifier_6 : decode m_Mo_quantifier.2.1 6 = .ok (.iload_n 0, 1) := by decide +kernel
theorem d_Mo_quantifier_7 : decode m_Mo_quantifier.2.1 7 = .ok (.bipush (43), 2) := by decide +kernel
theorem d_Mo_quantifier_9 : decode m_Mo_quantifier.2.1 9 = .ok (.if_icmp .eq (9), 3) := by decide +kernel
theorem d_Mo_quantifier_12 : decode m_Mo_quantifier.2.1 12 = .ok (.iload_n 0, 1) := by decide +kernel
theorem d_Mo_quantifier_13 : decode m_Mo_quantifier.2.1 13 = .ok (.bipush (63), 2) := by decide +kernel
theorem d_Mo_quantifier_15 : decode m_Mo_quantifier.2.1 15 = .ok (.if_icmp .ne (7), 3) := by decide +kernel
theorem d_Mo_quantifier_18 : decode m_Mo_quantifier.2.1 18 = .ok (.iconst 1, 1) := by decide +kernel
theorem d_Mo_quantifier_19 : decode m_Mo_quantifier.2.1 19 = .ok (.goto (4), 3) := by decide +kernel
theorem d_Mo_quantifier_22 : decode m_Mo_quantifier.2.1 22 = .ok (.iconst 0, 1) := by decide +kernel
theorem d_Mo_quantifier_23 : decode m_Mo_quantifier.2.1 23 = .ok (.ireturn, 1) := by decide +kernel
theorem d_Mo_at_0 : decode m_Mo_at.2.1 0 = .ok (.iload_n 2, 1) := by decide +kernel
theorem d_Mo_at_1 : decode m_Mo_at.2.1 1 = .ok (.aload_n 0, 1) := by decide +kernel
theorem d_Mo_at_2 : decode m_Mo_at.2.1 2 = .ok (.getfield 26, 3) := by decide +kernel
theorem d_Mo_at_5 : decode m_Mo_at.2.1 5 = .ok (.iload_n 1, 1) := by decide +kernel
theorem d_Mo_at_6 : decode m_Mo_at.2.1 6 = .ok (.iaload, 1) := by decide +kernel
theorem d_Mo_at_7 : decode m_Mo_at.2.1 7 = .ok (.if_icmp .ge (17), 3) := by decide +kernel
theorem d_Mo_at_10 : decode m_Mo_at.2.1 10 = .ok (.aload_n 0, 1) := by decide +kernel
theorem d_Mo_at_11 : decode m_Mo_at.2.1 11 = .ok (.getfield 29, 3) := by decide +kernel
theorem d_Mo_at_14 : decode m_Mo_at.2.1 14 = .ok (.bipush (21), 2) := by decide +kernel
theorem d_Mo_at_16 : decode m_Mo_at.2.1 16 = .ok (.iload_n 1, 1) := by decide +kernel
theorem d_Mo_at_17 : decode m_Mo_at.2.1 17 = .ok (.imul, 1) := by decide +kernel
theorem d_Mo_at_18 : decode m_Mo_at.2.1 18 = .ok (.iload_n 2, 1) := by decide +kernel
theorem d_Mo_at_19 : decode m_Mo_at.2.1 19 = .ok (.iadd, 1) := by decide +kernel
theorem d_Mo_at_20 : decode m_Mo_at.2.1 20 = .ok (.iaload, 1) := by decide +kernel
theorem d_Mo_at_21 : decode m_Mo_at.2.1 21 = .ok (.goto (4), 3) := by decide +kernel
theorem d_Mo_at_24 : decode m_Mo_at.2.1 24 = .ok (.iconst 0, 1) := by decide +kernel
theorem d_Mo_at_25 : decode m_Mo_at.2.1 25 = .ok (.ireturn, 1) := by decide +kernel
theorem d_Mo_items_0 : decode m_Mo_items.2.1 0 = .ok (.aload_n 0, 1) := by decide +kernel
theorem d_Mo_items_1 : decode m_Mo_items.2.1 1 = .ok (.iload_n 1, 1) := by decide +kernel
theorem d_Mo_items_2 : decode m_Mo_items.2.1 2 = .ok (.iload_n 2, 1) := by decide +kernel
theorem d_Mo_items_3 : decode m_Mo_items.2.1 3 = .ok (.invokevirtual 132, 3) := by decide +kernel
theorem d_Mo_items_6 : decode m_Mo_items.2.1 6 = .ok (.bipush (94), 2) := by decide +kernel
theorem d_Mo_items_8 : decode m_Mo_items.2.1 8 = .ok (.if_icmp .ne (9), 3) := by decide +kernel
theorem d_Mo_items_11 : decode m_Mo_items.2.1 11 = .ok (.iload_n 2, 1) := by decide +kernel
theorem d_Mo_items_12 : decode m_Mo_items.2.1 12 = .ok (.iconst 1, 1) := by decide +kernel
theorem d_Mo_items_13 : decode m_Mo_items.2.1 13 = .ok (.iadd, 1) := by decide +kernel
theorem d_Mo_items_14 : decode m_Mo_items.2.1 14 = .ok (.goto (4), 3) := by decide +kernel
theorem d_Mo_items_17 : decode m_Mo_items.2.1 17 = .ok (.iload_n 2, 1) := by decide +kernel
theorem d_Mo_items_18 : decode m_Mo_items.2.1 18 = .ok (.istore_n 3, 1) := by decide +kernel
theorem d_Mo_items_19 : decode m_Mo_items.2.1 19 = .ok (.iconst 0, 1) := by decide +kernel
theorem d_Mo_items_20 : decode m_Mo_items.2.1 20 = .ok (.istore 4, 2) := by decide +kernel
theorem d_Mo_items_22 : decode m_Mo_items.2.1 22 = .ok (.iload_n 3, 1) := by decide +kernel
theorem d_Mo_items_23 : decode m_Mo_items.2.1 23 = .ok (.aload_n 0, 1) := by decide +kernel
theorem d_Mo_items_24 : decode m_Mo_items.2.1 24 = .ok (.getfield 26, 3) := by decide +kernel
theorem d_Mo_items_27 : decode m_Mo_items.2.1 27 = .ok (.iload_n 1, 1) := by decide +kernel
theorem d_Mo_items_28 : decode m_Mo_items.2.1 28 = .ok (.iaload, 1) := by decide +kernel
theorem d_Mo_items_29 : decode m_Mo_items.2.1 29 = .ok (.if_icmp .ge (103), 3) := by decide +kernel
theorem d_Mo_items_32 : decode m_Mo_items.2.1 32 = .ok (.aload_n 0, 1) := by decide +kernel
theorem d_Mo_items_33 : decode m_Mo_items.2.1 33 = .ok (.iload_n 1, 1) := by decide +kernel
theorem d_Mo_items_34 : decode m_Mo_items.2.1 34 = .ok (.iload_n 3, 1) := by decide +kernel
theorem d_Mo_items_35 : decode m_Mo_items.2.1 35 = .ok (.invokevirtual 132, 3) := by decide +kernel
theorem d_Mo_items_38 : decode m_Mo_items.2.1 38 = .ok (.bipush (93), 2) := by decide +kernel
theorem d_Mo_items_40 : decode m_Mo_items.2.1 40 = .ok (.if_icmp .eq (92), 3) := by decide +kernel
theorem d_Mo_items_43 : decode m_Mo_items.2.1 43 = .ok (.aload_n 0, 1) := by decide +kernel
theorem d_Mo_items_44 : decode m_Mo_items.2.1 44 = .ok (.iload_n 1, 1) := by decide +kernel
theorem d_Mo_items_45 : decode m_Mo_items.2.1 45 = .ok (.iload_n 3, 1) := by decide +kernel
theorem d_Mo_items_46 : decode m_Mo_items.2.1 46 = .ok (.iconst 1, 1) := by decide +kernel
theorem d_Mo_items_47 : decode m_Mo_items.2.1 47 = .ok (.iadd, 1) := by decide +kernel
theorem d_Mo_items_48 : decode m_Mo_items.2.1 48 = .ok (.invokevirtual 132, 3) := by decide +kernel
theorem d_Mo_items_51 : decode m_Mo_items.2.1 51 = .ok (.bipush (45), 2) := by decide +kernel
theorem d_Mo_items_53 : decode m_Mo_items.2.1 53 = .ok (.if_icmp .ne (31), 3) := by decide +kernel
theorem d_Mo_items_56 : decode m_Mo_items.2.1 56 = .ok (.aload_n 0, 1) := by decide +kernel
theorem d_Mo_items_57 : decode m_Mo_items.2.1 57 = .ok (.iload_n 1, 1) := by decide +kernel
theorem d_Mo_items_58 : decode m_Mo_items.2.1 58 = .ok (.iload_n 3, 1) := by decide +kernel
theorem d_Mo_items_59 : decode m_Mo_items.2.1 59 = .ok (.iconst 2, 1) := by decide +kernel
theorem d_Mo_items_60 : decode m_Mo_items.2.1 60 = .ok (.iadd, 1) := by decide +kernel
theorem d_Mo_items_61 : decode m_Mo_items.2.1 61 = .ok (.invokevirtual 132, 3) := by decide +kernel
theorem d_Mo_items_64 : decode m_Mo_items.2.1 64 = .ok (.ifCond .eq (20), 3) := by decide +kernel
theorem d_Mo_items_67 : decode m_Mo_items.2.1 67 = .ok (.aload_n 0, 1) := by decide +kernel
theorem d_Mo_items_68 : decode m_Mo_items.2.1 68 = .ok (.iload_n 1, 1) := by decide +kernel
theorem d_Mo_items_69 : decode m_Mo_items.2.1 69 = .ok (.iload_n 3, 1) := by decide +kernel
theorem d_Mo_items_70 : decode m_Mo_items.2.1 70 = .ok (.iconst 2, 1) := by decide +kernel
theorem d_Mo_items_71 : decode m_Mo_items.2.1 71 = .ok (.iadd, 1) := by decide +kernel
theorem d_Mo_items_72 : decode m_Mo_items.2.1 72 = .ok (.invokevirtual 132, 3) := by decide +kernel
theorem d_Mo_items_75 : decode m_Mo_items.2.1 75 = .ok (.bipush (93), 2) := by decide +kernel
theorem d_Mo_items_77 : decode m_Mo_items.2.1 77 = .ok (.if_icmp .eq (7), 3) := by decide +kernel
theorem d_Mo_items_80 : decode m_Mo_items.2.1 80 = .ok (.iconst 1, 1) := by decide +kernel
theorem d_Mo_items_81 : decode m_Mo_items.2.1 81 = .ok (.goto (4), 3) := by decide +kernel
theorem d_Mo_items_84 : decode m_Mo_items.2.1 84 = .ok (.iconst 0, 1) := by decide +kernel
theorem d_Mo_items_85 : decode m_Mo_items.2.1 85 = .ok (.istore 5, 2) := by decide +kernel
theorem d_Mo_items_87 : decode m_Mo_items.2.1 87 = .ok (.iload 5, 2) := by decide +kernel
theorem d_Mo_items_89 : decode m_Mo_items.2.1 89 = .ok (.ifCond .eq (22), 3) := by decide +kernel
theorem d_Mo_items_92 : decode m_Mo_items.2.1 92 = .ok (.aload_n 0, 1) := by decide +kernel
theorem d_Mo_items_93 : decode m_Mo_items.2.1 93 = .ok (.iload_n 1, 1) := by decide +kernel
theorem d_Mo_items_94 : decode m_Mo_items.2.1 94 = .ok (.iload_n 3, 1) := by decide +kernel
theorem d_Mo_items_95 : decode m_Mo_items.2.1 95 = .ok (.invokevirtual 132, 3) := by decide +kernel
theorem d_Mo_items_98 : decode m_Mo_items.2.1 98 = .ok (.aload_n 0, 1) := by decide +kernel
theorem d_Mo_items_99 : decode m_Mo_items.2.1 99 = .ok (.iload_n 1, 1) := by decide +kernel
theorem d_Mo_items_100 : decode m_Mo_items.2.1 100 = .ok (.iload_n 3, 1) := by decide +kernel
theorem d_Mo_items_101 : decode m_Mo_items.2.1 101 = .ok (.iconst 2, 1) := by decide +kernel
theorem d_Mo_items_102 : decode m_Mo_items.2.1 102 = .ok (.iadd, 1) := by decide +kernel
theorem d_Mo_items_103 : decode m_Mo_items.2.1 103 = .ok (.invokevirtual 132, 3) := by decide +kernel
theorem d_Mo_items_106 : decode m_Mo_items.2.1 106 = .ok (.if_icmp .le (5), 3) := by decide +kernel
theorem d_Mo_items_109 : decode m_Mo_items.2.1 109 = .ok (.iconst (-1), 1) := by decide +kernel
theorem d_Mo_items_110 : decode m_Mo_items.2.1 110 = .ok (.ireturn, 1) := by decide +kernel
theorem d_Mo_items_111 : decode m_Mo_items.2.1 111 = .ok (.iload 5, 2) := by decide +kernel
theorem d_Mo_items_113 : decode m_Mo_items.2.1 113 = .ok (.ifCond .eq (9), 3) := by decide +kernel
theorem d_Mo_items_116 : decode m_Mo_items.2.1 116 = .ok (.iload_n 3, 1) := by decide +kernel
theorem d_Mo_items_117 : decode m_Mo_items.2.1 117 = .ok (.iconst 3, 1) := by decide +kernel
theorem d_Mo_items_118 : decode m_Mo_items.2.1 118 = .ok (.iadd, 1) := by decide +kernel
theorem d_Mo_items_119 : decode m_Mo_items.2.1 119 = .ok (.goto (6), 3) := by decide +kernel
theorem d_Mo_items_122 : decode m_Mo_items.2.1 122 = .ok (.iload_n 3, 1) := by decide +kernel
theorem d_Mo_items_123 : decode m_Mo_items.2.1 123 = .ok (.iconst 1, 1) := by decide +kernel
theorem d_Mo_items_124 : decode m_Mo_items.2.1 124 = .ok (.iadd, 1) := by decide +kernel
theorem d_Mo_items_125 : decode m_Mo_items.2.1 125 = .ok (.istore_n 3, 1) := by decide +kernel
theorem d_Mo_items_126 : decode m_Mo_items.2.1 126 = .ok (.iinc 4 (1), 3) := by decide +kernel
theorem d_Mo_items_129 : decode m_Mo_items.2.1 129 = .ok (.goto (-107), 3) := by decide +kernel
theorem d_Mo_items_132 : decode m_Mo_items.2.1 132 = .ok (.iload 4, 2) := by decide +kernel
theorem d_Mo_items_134 : decode m_Mo_items.2.1 134 = .ok (.ifCond .le (19), 3) := by decide +kernel
theorem d_Mo_items_137 : decode m_Mo_items.2.1 137 = .ok (.iload_n 3, 1) := by decide +kernel
theorem d_Mo_items_138 : decode m_Mo_items.2.1 138 = .ok (.aload_n 0, 1) := by decide +kernel
theorem d_Mo_items_139 : decode m_Mo_items.2.1 139 = .ok (.getfield 26, 3) := by decide +kernel
theorem d_Mo_items_142 : decode m_Mo_items.2.1 142 = .ok (.iload_n 1, 1) := by decide +kernel
theorem d_Mo_items_143 : decode m_Mo_items.2.1 143 = .ok (.iaload, 1) := by decide +kernel
theorem d_Mo_items_144 : decode m_Mo_items.2.1 144 = .ok (.if_icmp .ge (9), 3) := by decide +kernel
theorem d_Mo_items_147 : decode m_Mo_items.2.1 147 = .ok (.iload_n 3, 1) := by decide +kernel
theorem d_Mo_items_148 : decode m_Mo_items.2.1 148 = .ok (.iconst 1, 1) := by decide +kernel
theorem d_Mo_items_149 : decode m_Mo_items.2.1 149 = .ok (.iadd, 1) := by decide +kernel
theorem d_Mo_items_150 : decode m_Mo_items.2.1 150 = .ok (.goto (4), 3) := by decide +kernel
theorem d_Mo_items_153 : decode m_Mo_items.2.1 153 = .ok (.iconst (-1), 1) := by decide +kernel
theorem d_Mo_items_154 : decode m_Mo_items.2.1 154 = .ok (.ireturn, 1) := by decide +kernel
theorem d_Mo_simple_0 : decode m_Mo_simple.2.1 0 = .ok (.aload_n 0, 1) := by decide +kernel
theorem d_Mo_simple_1 : decode m_Mo_simple.2.1 1 = .ok (.iload_n 1, 1) := by decide +kernel
theorem d_Mo_simple_2 : decode m_Mo_simple.2.1 2 = .ok (.iload_n 2, 1) := by decide +kernel
theorem d_Mo_simple_3 : decode m_Mo_simple.2.1 3 = .ok (.invokevirtual 132, 3) := by decide +kernel
theorem d_Mo_simple_6 : decode m_Mo_simple.2.1 6 = .ok (.istore 4, 2) := by decide +kernel
theorem d_Mo_simple_8 : decode m_Mo_simple.2.1 8 = .ok (.iload 4, 2) := by decide +kernel
theorem d_Mo_simple_10 : decode m_Mo_simple.2.1 10 = .ok (.bipush (91), 2) := by decide +kernel
theorem d_Mo_simple_12 : decode m_Mo_simple.2.1 12 = .ok (.if_icmp .ne (12), 3) := by decide +kernel
theorem d_Mo_simple_15 : decode m_Mo_simple.2.1 15 = .ok (.aload_n 0, 1) := by decide +kernel
theorem d_Mo_simple_16 : decode m_Mo_simple.2.1 16 = .ok (.iload_n 1, 1) := by decide +kernel
theorem d_Mo_simple_17 : decode m_Mo_simple.2.1 17 = .ok (.iload_n 2, 1) := by decide +kernel
theorem d_Mo_simple_18 : decode m_Mo_simple.2.1 18 = .ok (.iconst 1, 1) := by decide +kernel
theorem d_Mo_simple_19 : decode m_Mo_simple.2.1 19 = .ok (.iadd, 1) := by decide +kernel
theorem d_Mo_simple_20 : decode m_Mo_simple.2.1 20 = .ok (.invokevirtual 136, 3) := by decide +kernel
theorem d_Mo_simple_23 : decode m_Mo_simple.2.1 23 = .ok (.ireturn, 1) := by decide +kernel
theorem d_Mo_simple_24 : decode m_Mo_simple.2.1 24 = .ok (.iload 4, 2) := by decide +kernel
theorem d_Mo_simple_26 : decode m_Mo_simple.2.1 26 = .ok (.bipush (92), 2) := by decide +kernel
theorem d_Mo_simple_28 : decode m_Mo_simple.2.1 28 = .ok (.if_icmp .ne (70), 3) := by decide +kernel
theorem d_Mo_simple_31 : decode m_Mo_simple.2.1 31 = .ok (.aload_n 0, 1) := by decide +kernel
theorem d_Mo_simple_32 : decode m_Mo_simple.2.1 32 = .ok (.iload_n 1, 1) := by decide +kernel
theorem d_Mo_simple_33 : decode m_Mo_simple.2.1 33 = .ok (.iload_n 2, 1) := by decide +kernel
theorem d_Mo_simple_34 : decode m_Mo_simple.2.1 34 = .ok (.iconst 1, 1) := by decide +kernel
theorem d_Mo_simple_35 : decode m_Mo_simple.2.1 35 = .ok (.iadd, 1) := by decide +kernel
theorem d_Mo_simple_36 : decode m_Mo_simple.2.1 36 = .ok (.invokevirtual 132, 3) := by decide +kernel
theorem d_Mo_simple_39 : decode m_Mo_simple.2.1 39 = .ok (.istore 5, 2) := by decide +kernel
theorem d_Mo_simple_41 : decode m_Mo_simple.2.1 41 = .ok (.iload 5, 2) := by decide +kernel
theorem d_Mo_simple_43 : decode m_Mo_simple.2.1 43 = .ok (.bipush (48), 2) := by decide +kernel
theorem d_Mo_simple_45 : decode m_Mo_simple.2.1 45 = .ok (.if_icmp .lt (14), 3) := by decide +kernel
theorem d_Mo_simple_48 : decode m_Mo_simple.2.1 48 = .ok (.iload 5, 2) := by decide +kernel
theorem d_Mo_simple_50 : decode m_Mo_simple.2.1 50 = .ok (.bipush (57), 2) := by decide +kernel
theorem d_Mo_simple_52 : decode m_Mo_simple.2.1 52 = .ok (.if_icmp .gt (7), 3) := by decide +kernel
theorem d_Mo_simple_55 : decode m_Mo_simple.2.1 55 = .ok (.iconst 1, 1) := by decide +kernel
theorem d_Mo_simple_56 : decode m_Mo_simple.2.1 56 = .ok (.goto (4), 3) := by decide +kernel
theorem d_Mo_simple_59 : decode m_Mo_simple.2.1 59 = .ok (.iconst 0, 1) := by decide +kernel
theorem d_Mo_simple_60 : decode m_Mo_simple.2.1 60 = .ok (.istore 6, 2) := by decide +kernel
theorem d_Mo_simple_62 : decode m_Mo_simple.2.1 62 = .ok (.iload 5, 2) := by decide +kernel
theorem d_Mo_simple_64 : decode m_Mo_simple.2.1 64 = .ok (.ifCond .eq (26), 3) := by decide +kernel
theorem d_Mo_simple_67 : decode m_Mo_simple.2.1 67 = .ok (.iload 6, 2) := by decide +kernel
theorem d_Mo_simple_69 : decode m_Mo_simple.2.1 69 = .ok (.ifCond .eq (25), 3) := by decide +kernel
theorem d_Mo_simple_72 : decode m_Mo_simple.2.1 72 = .ok (.iload_n 3, 1) := by decide +kernel
theorem d_Mo_simple_73 : decode m_Mo_simple.2.1 73 = .ok (.ifCond .eq (17), 3) := by decide +kernel
theorem d_Mo_simple_76 : decode m_Mo_simple.2.1 76 = .ok (.iload 5, 2) := by decide +kernel
theorem d_Mo_simple_78 : decode m_Mo_simple.2.1 78 = .ok (.bipush (49), 2) := by decide +kernel
theorem d_Mo_simple_80 : decode m_Mo_simple.2.1 80 = .ok (.if_icmp .eq (14), 3) := by decide +kernel
theorem d_Mo_simple_83 : decode m_Mo_simple.2.1 83 = .ok (.iload 5, 2) := by decide +kernel
theorem d_Mo_simple_85 : decode m_Mo_simple.2.1 85 = .ok (.bipush (50), 2) := by decide +kernel
theorem d_Mo_simple_87 : decode m_Mo_simple.2.1 87 = .ok (.if_icmp .eq (7), 3) := by decide +kernel
theorem d_Mo_simple_90 : decode m_Mo_simple.2.1 90 = .ok (.iconst (-1), 1) := by decide +kernel
theorem d_Mo_simple_91 : decode m_Mo_simple.2.1 91 = .ok (.goto (6), 3) := by decide +kernel
theorem d_Mo_simple_94 : decode m_Mo_simple.2.1 94 = .ok (.iload_n 2, 1) := by decide +kernel
theorem d_Mo_simple_95 : decode m_Mo_simple.2.1 95 = .ok (.iconst 2, 1) := by decide +kernel
theorem d_Mo_simple_96 : decode m_Mo_simple.2.1 96 = .ok (.iadd, 1) := by decide +kernel
theorem d_Mo_simple_97 : decode m_Mo_simple.2.1 97 = .ok (.ireturn, 1) := by decide +kernel
theorem d_Mo_simple_98 : decode m_Mo_simple.2.1 98 = .ok (.iload 4, 2) := by decide +kernel
theorem d_Mo_simple_100 : decode m_Mo_simple.2.1 100 = .ok (.bipush (41), 2) := by decide +kernel
theorem d_Mo_simple_102 : decode m_Mo_simple.2.1 102 = .ok (.if_icmp .eq (18), 3) := by decide +kernel
theorem d_Mo_simple_105 : decode m_Mo_simple.2.1 105 = .ok (.iload 4, 2) := by decide +kernel
theorem d_Mo_simple_107 : decode m_Mo_simple.2.1 107 = .ok (.bipush (124), 2) := by decide +kernel
theorem d_Mo_simple_109 : decode m_Mo_simple.2.1 109 = .ok (.if_icmp .eq (11), 3) := by decide +kernel
theorem d_Mo_simple_112 : decode m_Mo_simple.2.1 112 = .ok (.iload 4, 2) := by decide +kernel
theorem d_Mo_simple_114 : decode m_Mo_simple.2.1 114 = .ok (.invokestatic 139, 3) := by decide +kernel
theorem d_Mo_simple_117 : decode m_Mo_simple.2.1 117 = .ok (.ifCond .eq (7), 3) := by decide +kernel
theorem d_Mo_simple_120 : decode m_Mo_simple.2.1 120 = .ok (.iconst (-1), 1) := by decide +kernel
theorem d_Mo_simple_121 : decode m_Mo_simple.2.1 121 = .ok (.goto (6), 3) := by decide +kernel
theorem d_Mo_simple_124 : decode m_Mo_simple.2.1 124 = .ok (.iload_n 2, 1) := by decide +kernel
theorem d_Mo_simple_125 : decode m_Mo_simple.2.1 125 = .ok (.iconst 1, 1) := by decide +kernel
theorem d_Mo_simple_126 : decode m_Mo_simple.2.1 126 = .ok (.iadd, 1) := by decide +kernel
theorem d_Mo_simple_127 : decode m_Mo_simple.2.1 127 = .ok (.ireturn, 1) := by decide +kernel
theorem d_Mo_isRef_0 : decode m_Mo_isRef.2.1 0 = .ok (.aload_n 0, 1) := by decide +kernel
theorem d_Mo_isRef_1 : decode m_Mo_isRef.2.1 1 = .ok (.iload_n 1, 1) := by decide +kernel
theorem d_Mo_isRef_2 : decode m_Mo_isRef.2.1 2 = .ok (.iload_n 2, 1) := by decide +kernel
theorem d_Mo_isRef_3 : decode m_Mo_isRef.2.1 3 = .ok (.invokevirtual 132, 3) := by decide +kernel
theorem d_Mo_isRef_6 : decode m_Mo_isRef.2.1 6 = .ok (.bipush (92), 2) := by decide +kernel
theorem d_Mo_isRef_8 : decode m_Mo_isRef.2.1 8 = .ok (.if_icmp .ne (33), 3) := by decide +kernel
theorem d_Mo_isRef_11 : decode m_Mo_isRef.2.1 11 = .ok (.aload_n 0, 1) := by decide +kernel
theorem d_Mo_isRef_12 : decode m_Mo_isRef.2.1 12 = .ok (.iload_n 1, 1) := by decide +kernel
theorem d_Mo_isRef_13 : decode m_Mo_isRef.2.1 13 = .ok (.iload_n 2, 1) := by decide +kernel
theorem d_Mo_isRef_14 : decode m_Mo_isRef.2.1 14 = .ok (.iconst 1, 1) := by decide +kernel
theorem d_Mo_isRef_15 : decode m_Mo_isRef.2.1 15 = .ok (.iadd, 1) := by decide +kernel
theorem d_Mo_isRef_16 : decode m_Mo_isRef.2.1 16 = .ok (.invokevirtual 132, 3) := by decide +kernel
theorem d_Mo_isRef_19 : decode m_Mo_isRef.2.1 19 = .ok (.bipush (48), 2) := by decide +kernel
theorem d_Mo_isRef_21 : decode m_Mo_isRef.2.1 21 = .ok (.if_icmp .lt (20), 3) := by decide +kernel
theorem d_Mo_isRef_24 : decode m_Mo_isRef.2.1 24 = .ok (.aload_n 0, 1) := by decide +kernel
theorem d_Mo_isRef_25 : decode m_Mo_isRef.2.1 25 = .ok (.iload_n 1, 1) := by decide +kernel
theorem d_Mo_isRef_26 : decode m_Mo_isRef.2.1 26 = .ok (.iload_n 2, 1) := by decide +kernel
theorem d_Mo_isRef_27 : decode m_Mo_isRef.2.1 27 = .ok (.iconst 1, 1) := by decide +kernel
theorem d_Mo_isRef_28 : decode m_Mo_isRef.2.1 28 = .ok (.iadd, 1) := by decide +kernel
theorem d_Mo_isRef_29 : decode m_Mo_isRef.2.1 29 = .ok (.invokevirtual 132, 3) := by decide +kernel
theorem d_Mo_isRef_32 : decode m_Mo_isRef.2.1 32 = .ok (.bipush (57), 2) := by decide +kernel
theorem d_Mo_isRef_34 : decode m_Mo_isRef.2.1 34 = .ok (.if_icmp .gt (7), 3) := by decide +kernel
theorem d_Mo_isRef_37 : decode m_Mo_isRef.2.1 37 = .ok (.iconst 1, 1) := by decide +kernel
theorem d_Mo_isRef_38 : decode m_Mo_isRef.2.1 38 = .ok (.goto (4), 3) := by decide +kernel
theorem d_Mo_isRef_41 : decode m_Mo_isRef.2.1 41 = .ok (.iconst 0, 1) := by decide +kernel
theorem d_Mo_isRef_42 : decode m_Mo_isRef.2.1 42 = .ok (.ireturn, 1) := by decide +kernel
theorem d_Mo_quantified_0 : decode m_Mo_quantified.2.1 0 = .ok (.aload_n 0, 1) := by decide +kernel
theorem d_Mo_quantified_1 : decode m_Mo_quantified.2.1 1 = .ok (.iload_n 1, 1) := by decide +kernel
theorem d_Mo_quantified_2 : decode m_Mo_quantified.2.1 2 = .ok (.iload_n 3, 1) := by decide +kernel
theorem d_Mo_quantified_3 : decode m_Mo_quantified.2.1 3 = .ok (.invokevirtual 132, 3) := by decide +kernel
theorem d_Mo_quantified_6 : decode m_Mo_quantified.2.1 6 = .ok (.bipush (42), 2) := by decide +kernel
theorem d_Mo_quantified_8 : decode m_Mo_quantified.2.1 8 = .ok (.if_icmp .ne (7), 3) := by decide +kernel
theorem d_Mo_quantified_11 : decode m_Mo_quantified.2.1 11 = .ok (.iconst 1, 1) := by decide +kernel
theorem d_Mo_quantified_12 : decode m_Mo_quantified.2.1 12 = .ok (.goto (34), 3) := by decide +kernel
theorem d_Mo_quantified_15 : decode m_Mo_quantified.2.1 15 = .ok (.aload_n 0, 1) := by decide +kernel
theorem d_Mo_quantified_16 : decode m_Mo_quantified.2.1 16 = .ok (.iload_n 1, 1) := by decide +kernel
theorem d_Mo_quantified_17 : decode m_Mo_quantified.2.1 17 = .ok (.iload_n 3, 1) := by decide +kernel
theorem d_Mo_quantified_18 : decode m_Mo_quantified.2.1 18 = .ok (.invokevirtual 132, 3) := by decide +kernel
theorem d_Mo_quantified_21 : decode m_Mo_quantified.2.1 21 = .ok (.bipush (43), 2) := by decide +kernel
theorem d_Mo_quantified_23 : decode m_Mo_quantified.2.1 23 = .ok (.if_icmp .ne (7), 3) := by decide +kernel
theorem d_Mo_quantified_26 : decode m_Mo_quantified.2.1 26 = .ok (.iconst 2, 1) := by decide +kernel
theorem d_Mo_quantified_27 : decode m_Mo_quantified.2.1 27 = .ok (.goto (19), 3) := by decide +kernel
theorem d_Mo_quantified_30 : decode m_Mo_quantified.2.1 30 = .ok (.aload_n 0, 1) := by decide +kernel
theorem d_Mo_quantified_31 : decode m_Mo_quantified.2.1 31 = .ok (.iload_n 1, 1) := by decide +kernel
theorem d_Mo_quantified_32 : decode m_Mo_quantified.2.1 32 = .ok (.iload_n 3, 1) := by decide +kernel
theorem d_Mo_quantified_33 : decode m_Mo_quantified.2.1 33 = .ok (.invokevirtual 132, 3) := by decide +kernel
theorem d_Mo_quantified_36 : decode m_Mo_quantified.2.1 36 = .ok (.bipush (63), 2) := by decide +kernel
theorem d_Mo_quantified_38 : decode m_Mo_quantified.2.1 38 = .ok (.if_icmp .ne (7), 3) := by decide +kernel
theorem d_Mo_quantified_41 : decode m_Mo_quantified.2.1 41 = .ok (.iconst 3, 1) := by decide +kernel
theorem d_Mo_quantified_42 : decode m_Mo_quantified.2.1 42 = .ok (.goto (4), 3) := by decide +kernel
theorem d_Mo_quantified_45 : decode m_Mo_quantified.2.1 45 = .ok (.iconst 0, 1) := by decide +kernel
theorem d_Mo_quantified_46 : decode m_Mo_quantified.2.1 46 = .ok (.istore 6, 2) := by decide +kernel
theorem d_Mo_quantified_48 : decode m_Mo_quantified.2.1 48 = .ok (.iload 6, 2) := by decide +kernel
theorem d_Mo_quantified_50 : decode m_Mo_quantified.2.1 50 = .ok (.ifCond .le (9), 3) := by decide +kernel
theorem d_Mo_quantified_53 : decode m_Mo_quantified.2.1 53 = .ok (.iload_n 3, 1) := by decide +kernel
theorem d_Mo_quantified_54 : decode m_Mo_quantified.2.1 54 = .ok (.iconst 1, 1) := by decide +kernel
theorem d_Mo_quantified_55 : decode m_Mo_quantified.2.1 55 = .ok (.iadd, 1) := by decide +kernel
theorem d_Mo_quantified_56 : decode m_Mo_quantified.2.1 56 = .ok (.goto (4), 3) := by decide +kernel
theorem d_Mo_quantified_59 : decode m_Mo_quantified.2.1 59 = .ok (.iload_n 3, 1) := by decide +kernel
theorem d_Mo_quantified_60 : decode m_Mo_quantified.2.1 60 = .ok (.istore 7, 2) := by decide +kernel
theorem d_Mo_quantified_62 : decode m_Mo_quantified.2.1 62 = .ok (.iload 6, 2) := by decide +kernel
theorem d_Mo_quantified_64 : decode m_Mo_quantified.2.1 64 = .ok (.ifCond .le (19), 3) := by decide +kernel
theorem d_Mo_quantified_67 : decode m_Mo_quantified.2.1 67 = .ok (.aload_n 0, 1) := by decide +kernel
theorem d_Mo_quantified_68 : decode m_Mo_quantified.2.1 68 = .ok (.iload_n 1, 1) := by decide +kernel
theorem d_Mo_quantified_69 : decode m_Mo_quantified.2.1 69 = .ok (.iload 7, 2) := by decide +kernel
theorem d_Mo_quantified_71 : decode m_Mo_quantified.2.1 71 = .ok (.invokevirtual 132, 3) := by decide +kernel
theorem d_Mo_quantified_74 : decode m_Mo_quantified.2.1 74 = .ok (.bipush (63), 2) := by decide +kernel
theorem d_Mo_quantified_76 : decode m_Mo_quantified.2.1 76 = .ok (.if_icmp .ne (7), 3) := by decide +kernel
theorem d_Mo_quantified_79 : decode m_Mo_quantified.2.1 79 = .ok (.iconst 1, 1) := by decide +kernel
theorem d_Mo_quantified_80 : decode m_Mo_quantified.2.1 80 = .ok (.goto (4), 3) := by decide +kernel
theorem d_Mo_quantified_83 : decode m_Mo_quantified.2.1 83 = .ok (.iconst 0, 1) := by decide +kernel
theorem d_Mo_quantified_84 : decode m_Mo_quantified.2.1 84 = .ok (.istore 8, 2) := by decide +kernel
theorem d_Mo_quantified_86 : decode m_Mo_quantified.2.1 86 = .ok (.iload 8, 2) := by decide +kernel
theorem d_Mo_quantified_88 : decode m_Mo_quantified.2.1 88 = .ok (.ifCond .eq (10), 3) := by decide +kernel
theorem d_Mo_quantified_91 : decode m_Mo_quantified.2.1 91 = .ok (.iload 7, 2) := by decide +kernel
theorem d_Mo_quantified_93 : decode m_Mo_quantified.2.1 93 = .ok (.iconst 1, 1) := by decide +kernel
theorem d_Mo_quantified_94 : decode m_Mo_quantified.2.1 94 = .ok (.iadd, 1) := by decide +kernel
theorem d_Mo_quantified_95 : decode m_Mo_quantified.2.1 95 = .ok (.goto (5), 3) := by decide +kernel
theorem d_Mo_quantified_98 : decode m_Mo_quantified.2.1 98 = .ok (.iload 7, 2) := by decide +kernel
theorem d_Mo_quantified_100 : decode m_Mo_quantified.2.1 100 = .ok (.istore 7, 2) := by decide +kernel
theorem d_Mo_quantified_102 : decode m_Mo_quantified.2.1 102 = .ok (.iload 4, 2) := by decide +kernel
theorem d_Mo_quantified_104 : decode m_Mo_quantified.2.1 104 = .ok (.ifCond .eq (15), 3) := by decide +kernel
theorem d_Mo_quantified_107 : decode m_Mo_quantified.2.1 107 = .ok (.iload 6, 2) := by decide +kernel
theorem d_Mo_quantified_109 : decode m_Mo_quantified.2.1 109 = .ok (.iconst 1, 1) := by decide +kernel
theorem d_Mo_quantified_110 : decode m_Mo_quantified.2.1 110 = .ok (.if_icmp .eq (23), 3) := by decide +kernel
theorem d_Mo_quantified_113 : decode m_Mo_quantified.2.1 113 = .ok (.iload 6, 2) := by decide +kernel
theorem d_Mo_quantified_115 : decode m_Mo_quantified.2.1 115 = .ok (.iconst 2, 1) := by decide +kernel
theorem d_Mo_quantified_116 : decode m_Mo_quantified.2.1 116 = .ok (.if_icmp .eq (17), 3) := by decide +kernel
theorem d_Mo_quantified_119 : decode m_Mo_quantified.2.1 119 = .ok (.aload_n 0, 1) := by decide +kernel
theorem d_Mo_quantified_120 : decode m_Mo_quantified.2.1 120 = .ok (.iload_n 1, 1) := by decide +kernel
theorem d_Mo_quantified_121 : decode m_Mo_quantified.2.1 121 = .ok (.iload_n 2, 1) := by decide +kernel
theorem d_Mo_quantified_122 : decode m_Mo_quantified.2.1 122 = .ok (.invokevirtual 143, 3) := by decide +kernel
theorem d_Mo_quantified_125 : decode m_Mo_quantified.2.1 125 = .ok (.ifCond .eq (10), 3) := by decide +kernel
theorem d_Mo_quantified_128 : decode m_Mo_quantified.2.1 128 = .ok (.iload 6, 2) := by decide +kernel
theorem d_Mo_quantified_130 : decode m_Mo_quantified.2.1 130 = .ok (.ifCond .le (5), 3) := by decide +kernel
theorem d_Mo_quantified_133 : decode m_Mo_quantified.2.1 133 = .ok (.iconst (-1), 1) := by decide +kernel
theorem d_Mo_quantified_134 : decode m_Mo_quantified.2.1 134 = .ok (.ireturn, 1) := by decide +kernel
theorem d_Mo_quantified_135 : decode m_Mo_quantified.2.1 135 = .ok (.bipush (21), 2) := by decide +kernel
theorem d_Mo_quantified_137 : decode m_Mo_quantified.2.1 137 = .ok (.iload_n 1, 1) := by decide +kernel
theorem d_Mo_quantified_138 : decode m_Mo_quantified.2.1 138 = .ok (.imul, 1) := by decide +kernel
theorem d_Mo_quantified_139 : decode m_Mo_quantified.2.1 139 = .ok (.iload_n 2, 1) := by decide +kernel
theorem d_Mo_quantified_140 : decode m_Mo_quantified.2.1 140 = .ok (.iadd, 1) := by decide +kernel
theorem d_Mo_quantified_141 : decode m_Mo_quantified.2.1 141 = .ok (.istore 9, 2) := by decide +kernel
theorem d_Mo_quantified_143 : decode m_Mo_quantified.2.1 143 = .ok (.aload_n 0, 1) := by decide +kernel
theorem d_Mo_quantified_144 : decode m_Mo_quantified.2.1 144 = .ok (.getfield 32, 3) := by decide +kernel
theorem d_Mo_quantified_147 : decode m_Mo_quantified.2.1 147 = .ok (.iload 9, 2) := by decide +kernel
theorem d_Mo_quantified_149 : decode m_Mo_quantified.2.1 149 = .ok (.iload 8, 2) := by decide +kernel
theorem d_Mo_quantified_151 : decode m_Mo_quantified.2.1 151 = .ok (.ifCond .eq (10), 3) := by decide +kernel
theorem d_Mo_quantified_154 : decode m_Mo_quantified.2.1 154 = .ok (.iload 6, 2) := by decide +kernel
theorem d_Mo_quantified_156 : decode m_Mo_quantified.2.1 156 = .ok (.iconst 4, 1) := by decide +kernel
theorem d_Mo_quantified_157 : decode m_Mo_quantified.2.1 157 = .ok (.iadd, 1) := by decide +kernel
theorem d_Mo_quantified_158 : decode m_Mo_quantified.2.1 158 = .ok (.goto (5), 3) := by decide +kernel
theorem d_Mo_quantified_161 : decode m_Mo_quantified.2.1 161 = .ok (.iload 6, 2) := by decide +kernel
theorem d_Mo_quantified_163 : decode m_Mo_quantified.2.1 163 = .ok (.iastore, 1) := by decide +kernel
theorem d_Mo_quantified_164 : decode m_Mo_quantified.2.1 164 = .ok (.aload_n 0, 1) := by decide +kernel
theorem d_Mo_quantified_165 : decode m_Mo_quantified.2.1 165 = .ok (.getfield 35, 3) := by decide +kernel
theorem d_Mo_quantified_168 : decode m_Mo_quantified.2.1 168 = .ok (.iload 9, 2) := by decide +kernel
theorem d_Mo_quantified_170 : decode m_Mo_quantified.2.1 170 = .ok (.iload_n 3, 1) := by decide +kernel
theorem d_Mo_quantified_171 : decode m_Mo_quantified.2.1 171 = .ok (.iastore, 1) := by decide +kernel
theorem d_Mo_quantified_172 : decode m_Mo_quantified.2.1 172 = .ok (.aload_n 0, 1) := by decide +kernel
theorem d_Mo_quantified_173 : decode m_Mo_quantified.2.1 173 = .ok (.getfield 38, 3) := by decide +kernel
theorem d_Mo_quantified_176 : decode m_Mo_quantified.2.1 176 = .ok (.iload 9, 2) := by decide +kernel
theorem d_Mo_quantified_178 : decode m_Mo_quantified.2.1 178 = .ok (.iload 7, 2) := by decide +kernel
theorem d_Mo_quantified_180 : decode m_Mo_quantified.2.1 180 = .ok (.iastore, 1) := by decide +kernel
theorem d_Mo_quantified_181 : decode m_Mo_quantified.2.1 181 = .ok (.aload_n 0, 1) := by decide +kernel
theorem d_Mo_quantified_182 : decode m_Mo_quantified.2.1 182 = .ok (.getfield 62, 3) := by decide +kernel
theorem d_Mo_quantified_185 : decode m_Mo_quantified.2.1 185 = .ok (.iload 5, 2) := by decide +kernel
theorem d_Mo_quantified_187 : decode m_Mo_quantified.2.1 187 = .ok (.aload_n 0, 1) := by decide +kernel
theorem d_Mo_quantified_188 : decode m_Mo_quantified.2.1 188 = .ok (.getfield 62, 3) := by decide +kernel
theorem d_Mo_quantified_191 : decode m_Mo_quantified.2.1 191 = .ok (.iload 5, 2) := by decide +kernel
theorem d_Mo_quantified_193 : decode m_Mo_quantified.2.1 193 = .ok (.baload, 1) := by decide +kernel
theorem d_Mo_quantified_194 : decode m_Mo_quantified.2.1 194 = .ok (.ifCond .eq (24), 3) := by decide +kernel
theorem d_Mo_quantified_197 : decode m_Mo_quantified.2.1 197 = .ok (.iload 4, 2) := by decide +kernel
theorem d_Mo_quantified_199 : decode m_Mo_quantified.2.1 199 = .ok (.ifCond .ne (15), 3) := by decide +kernel
theorem d_Mo_quantified_202 : decode m_Mo_quantified.2.1 202 = .ok (.iload 6, 2) := by decide +kernel
theorem d_Mo_quantified_204 : decode m_Mo_quantified.2.1 204 = .ok (.iconst 1, 1) := by decide +kernel
theorem d_Mo_quantified_205 : decode m_Mo_quantified.2.1 205 = .ok (.if_icmp .eq (9), 3) := by decide +kernel
theorem d_Mo_quantified_208 : decode m_Mo_quantified.2.1 208 = .ok (.iload 6, 2) := by decide +kernel
theorem d_Mo_quantified_210 : decode m_Mo_quantified.2.1 210 = .ok (.iconst 3, 1) := by decide +kernel
theorem d_Mo_quantified_211 : decode m_Mo_quantified.2.1 211 = .ok (.if_icmp .ne (7), 3) := by decide +kernel
theorem d_Mo_quantified_214 : decode m_Mo_quantified.2.1 214 = .ok (.iconst 1, 1) := by decide +kernel
theorem d_Mo_quantified_215 : decode m_Mo_quantified.2.1 215 = .ok (.goto (4), 3) := by decide +kernel
theorem d_Mo_quantified_218 : decode m_Mo_quantified.2.1 218 = .ok (.iconst 0, 1) := by decide +kernel
theorem d_Mo_quantified_219 : decode m_Mo_quantified.2.1 219 = .ok (.bastore, 1) := by decide +kernel
theorem d_Mo_quantified_220 : decode m_Mo_quantified.2.1 220 = .ok (.iload 7, 2) := by decide +kernel
theorem d_Mo_quantified_222 : decode m_Mo_quantified.2.1 222 = .ok (.ireturn, 1) := by decide +kernel
theorem d_Mo_openLevel_0 : decode m_Mo_openLevel.2.1 0 = .ok (.aload_n 0, 1) := by decide +kernel
theorem d_Mo_openLevel_1 : decode m_Mo_openLevel.2.1 1 = .ok (.getfield 53, 3) := by decide +kernel
theorem d_Mo_openLevel_4 : decode m_Mo_openLevel.2.1 4 = .ok (.iload_n 1, 1) := by decide +kernel
theorem d_Mo_openLevel_5 : decode m_Mo_openLevel.2.1 5 = .ok (.iload_n 2, 1) := by decide +kernel
theorem d_Mo_openLevel_6 : decode m_Mo_openLevel.2.1 6 = .ok (.iastore, 1) := by decide +kernel
theorem d_Mo_openLevel_7 : decode m_Mo_openLevel.2.1 7 = .ok (.aload_n 0, 1) := by decide +kernel
theorem d_Mo_openLevel_8 : decode m_Mo_openLevel.2.1 8 = .ok (.getfield 56, 3) := by decide +kernel
theorem d_Mo_openLevel_11 : decode m_Mo_openLevel.2.1 11 = .ok (.iload_n 1, 1) := by decide +kernel
theorem d_Mo_openLevel_12 : decode m_Mo_openLevel.2.1 12 = .ok (.iload_n 2, 1) := by decide +kernel
theorem d_Mo_openLevel_13 : decode m_Mo_openLevel.2.1 13 = .ok (.iastore, 1) := by decide +kernel
theorem d_Mo_openLevel_14 : decode m_Mo_openLevel.2.1 14 = .ok (.aload_n 0, 1) := by decide +kernel
theorem d_Mo_openLevel_15 : decode m_Mo_openLevel.2.1 15 = .ok (.getfield 59, 3) := by decide +kernel
theorem d_Mo_openLevel_18 : decode m_Mo_openLevel.2.1 18 = .ok (.iload_n 1, 1) := by decide +kernel
theorem d_Mo_openLevel_19 : decode m_Mo_openLevel.2.1 19 = .ok (.iconst 0, 1) := by decide +kernel
theorem d_Mo_openLevel_20 : decode m_Mo_openLevel.2.1 20 = .ok (.bastore, 1) := by decide +kernel
theorem d_Mo_openLevel_21 : decode m_Mo_openLevel.2.1 21 = .ok (.aload_n 0, 1) := by decide +kernel
theorem d_Mo_openLevel_22 : decode m_Mo_openLevel.2.1 22 = .ok (.getfield 62, 3) := by decide +kernel
theorem d_Mo_openLevel_25 : decode m_Mo_openLevel.2.1 25 = .ok (.iload_n 1, 1) := by decide +kernel
theorem d_Mo_openLevel_26 : decode m_Mo_openLevel.2.1 26 = .ok (.iconst 1, 1) := by decide +kernel
theorem d_Mo_openLevel_27 : decode m_Mo_openLevel.2.1 27 = .ok (.bastore, 1) := by decide +kernel
theorem d_Mo_openLevel_28 : decode m_Mo_openLevel.2.1 28 = .ok (.return_, 1) := by decide +kernel
theorem d_Mo_note_0 : decode m_Mo_note.2.1 0 = .ok (.aload_n 0, 1) := by decide +kernel
theorem d_Mo_note_1 : decode m_Mo_note.2.1 1 = .ok (.getfield 44, 3) := by decide +kernel
theorem d_Mo_note_4 : decode m_Mo_note.2.1 4 = .ok (.bipush (21), 2) := by decide +kernel
theorem d_Mo_note_6 : decode m_Mo_note.2.1 6 = .ok (.iload_n 1, 1) := by decide +kernel
theorem d_Mo_note_7 : decode m_Mo_note.2.1 7 = .ok (.imul, 1) := by decide +kernel
theorem d_Mo_note_8 : decode m_Mo_note.2.1 8 = .ok (.iload_n 2, 1) := by decide +kernel
theorem d_Mo_note_9 : decode m_Mo_note.2.1 9 = .ok (.iadd, 1) := by decide +kernel
theorem d_Mo_note_10 : decode m_Mo_note.2.1 10 = .ok (.aload_n 0, 1) := by decide +kernel
theorem d_Mo_note_11 : decode m_Mo_note.2.1 11 = .ok (.getfield 53, 3) := by decide +kernel
theorem d_Mo_note_14 : decode m_Mo_note.2.1 14 = .ok (.iload_n 3, 1) := by decide +kernel
theorem d_Mo_note_15 : decode m_Mo_note.2.1 15 = .ok (.iaload, 1) := by decide +kernel
theorem d_Mo_note_16 : decode m_Mo_note.2.1 16 = .ok (.iastore, 1) := by decide +kernel
theorem d_Mo_note_17 : decode m_Mo_note.2.1 17 = .ok (.aload_n 0, 1) := by decide +kernel
theorem d_Mo_note_18 : decode m_Mo_note.2.1 18 = .ok (.getfield 59, 3) := by decide +kernel
theorem d_Mo_note_21 : decode m_Mo_note.2.1 21 = .ok (.iload_n 3, 1) := by decide +kernel
theorem d_Mo_note_22 : decode m_Mo_note.2.1 22 = .ok (.aload_n 0, 1) := by decide +kernel
theorem d_Mo_note_23 : decode m_Mo_note.2.1 23 = .ok (.getfield 59, 3) := by decide +kernel
theorem d_Mo_note_26 : decode m_Mo_note.2.1 26 = .ok (.iload_n 3, 1) := by decide +kernel
theorem d_Mo_note_27 : decode m_Mo_note.2.1 27 = .ok (.baload, 1) := by decide +kernel
theorem d_Mo_note_28 : decode m_Mo_note.2.1 28 = .ok (.ifCond .ne (12), 3) := by decide +kernel
theorem d_Mo_note_31 : decode m_Mo_note.2.1 31 = .ok (.aload_n 0, 1) := by decide +kernel
theorem d_Mo_note_32 : decode m_Mo_note.2.1 32 = .ok (.getfield 62, 3) := by decide +kernel
theorem d_Mo_note_35 : decode m_Mo_note.2.1 35 = .ok (.iload_n 3, 1) := by decide +kernel
theorem d_Mo_note_36 : decode m_Mo_note.2.1 36 = .ok (.baload, 1) := by decide +kernel
theorem d_Mo_note_37 : decode m_Mo_note.2.1 37 = .ok (.ifCond .eq (7), 3) := by decide +kernel
theorem d_Mo_note_40 : decode m_Mo_note.2.1 40 = .ok (.iconst 1, 1) := by decide +kernel
theorem d_Mo_note_41 : decode m_Mo_note.2.1 41 = .ok (.goto (4), 3) := by decide +kernel
theorem d_Mo_note_44 : decode m_Mo_note.2.1 44 = .ok (.iconst 0, 1) := by decide +kernel
theorem d_Mo_note_45 : decode m_Mo_note.2.1 45 = .ok (.bastore, 1) := by decide +kernel
theorem d_Mo_note_46 : decode m_Mo_note.2.1 46 = .ok (.aload_n 0, 1) := by decide +kernel
theorem d_Mo_note_47 : decode m_Mo_note.2.1 47 = .ok (.getfield 62, 3) := by decide +kernel
theorem d_Mo_note_50 : decode m_Mo_note.2.1 50 = .ok (.iload_n 3, 1) := by decide +kernel
theorem d_Mo_note_51 : decode m_Mo_note.2.1 51 = .ok (.iconst 1, 1) := by decide +kernel
theorem d_Mo_note_52 : decode m_Mo_note.2.1 52 = .ok (.bastore, 1) := by decide +kernel
theorem d_Mo_note_53 : decode m_Mo_note.2.1 53 = .ok (.return_, 1) := by decide +kernel
