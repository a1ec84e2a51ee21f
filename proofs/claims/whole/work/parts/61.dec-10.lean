/-! Instructions -/
theorem d_Lw_law_0 : decode m_Lw_law.2.1 0 = .ok (.new 7, 3) := by decide +kernel
theorem d_Lw_law_3 : decode m_Lw_law.2.1 3 = .ok (.dup, 1) := by decide +kernel
theorem d_Lw_law_4 : decode m_Lw_law.2.1 4 = .ok (.aload_n 0, 1) := by decide +kernel
theorem d_Lw_law_5 : decode m_Lw_law.2.1 5 = .ok (.iconst 0, 1) := by decide +kernel
theorem d_Lw_law_6 : decode m_Lw_law.2.1 6 = .ok (.invokestatic 9, 3) := by decide +kernel
theorem d_Lw_law_9 : decode m_Lw_law.2.1 9 = .ok (.invokespecial 15, 3) := by decide +kernel
theorem d_Lw_law_12 : decode m_Lw_law.2.1 12 = .ok (.astore_n 1, 1) := by decide +kernel
theorem d_Lw_law_13 : decode m_Lw_law.2.1 13 = .ok (.new 18, 3) := by decide +kernel
theorem d_Lw_law_16 : decode m_Lw_law.2.1 16 = .ok (.dup, 1) := by decide +kernel
theorem d_Lw_law_17 : decode m_Lw_law.2.1 17 = .ok (.aload_n 0, 1) := by decide +kernel
theorem d_Lw_law_18 : decode m_Lw_law.2.1 18 = .ok (.iconst 0, 1) := by decide +kernel
theorem d_Lw_law_19 : decode m_Lw_law.2.1 19 = .ok (.invokestatic 9, 3) := by decide +kernel
theorem d_Lw_law_22 : decode m_Lw_law.2.1 22 = .ok (.invokespecial 20, 3) := by decide +kernel
theorem d_Lw_law_25 : decode m_Lw_law.2.1 25 = .ok (.astore_n 2, 1) := by decide +kernel
theorem d_Lw_law_26 : decode m_Lw_law.2.1 26 = .ok (.iconst 1, 1) := by decide +kernel
theorem d_Lw_law_27 : decode m_Lw_law.2.1 27 = .ok (.istore_n 3, 1) := by decide +kernel
theorem d_Lw_law_28 : decode m_Lw_law.2.1 28 = .ok (.iload_n 3, 1) := by decide +kernel
theorem d_Lw_law_29 : decode m_Lw_law.2.1 29 = .ok (.aload_n 0, 1) := by decide +kernel
theorem d_Lw_law_30 : decode m_Lw_law.2.1 30 = .ok (.arraylength, 1) := by decide +kernel
theorem d_Lw_law_31 : decode m_Lw_law.2.1 31 = .ok (.iconst 5, 1) := by decide +kernel
theorem d_Lw_law_32 : decode m_Lw_law.2.1 32 = .ok (.isub, 1) := by decide +kernel
theorem d_Lw_law_33 : decode m_Lw_law.2.1 33 = .ok (.if_icmp .gt (616), 3) := by decide +kernel
theorem d_Lw_law_36 : decode m_Lw_law.2.1 36 = .ok (.aload_n 0, 1) := by decide +kernel
theorem d_Lw_law_37 : decode m_Lw_law.2.1 37 = .ok (.iload_n 3, 1) := by decide +kernel
theorem d_Lw_law_38 : decode m_Lw_law.2.1 38 = .ok (.iaload, 1) := by decide +kernel
theorem d_Lw_law_39 : decode m_Lw_law.2.1 39 = .ok (.bipush (31), 2) := by decide +kernel
theorem d_Lw_law_41 : decode m_Lw_law.2.1 41 = .ok (.iand, 1) := by decide +kernel
theorem d_Lw_law_42 : decode m_Lw_law.2.1 42 = .ok (.tableswitch (601) (0) (16) #[82, 135, 146, 179, 212, 245, 288, 311, 334, 347, 360, 383, 406, 449, 472, 505, 548], 82) := by decide +kernel
theorem d_Lw_law_124 : decode m_Lw_law.2.1 124 = .ok (.aload_n 1, 1) := by decide +kernel
theorem d_Lw_law_125 : decode m_Lw_law.2.1 125 = .ok (.aload_n 0, 1) := by decide +kernel
theorem d_Lw_law_126 : decode m_Lw_law.2.1 126 = .ok (.iload_n 3, 1) := by decide +kernel
theorem d_Lw_law_127 : decode m_Lw_law.2.1 127 = .ok (.iconst 1, 1) := by decide +kernel
theorem d_Lw_law_128 : decode m_Lw_law.2.1 128 = .ok (.iadd, 1) := by decide +kernel
theorem d_Lw_law_129 : decode m_Lw_law.2.1 129 = .ok (.iaload, 1) := by decide +kernel
theorem d_Lw_law_130 : decode m_Lw_law.2.1 130 = .ok (.i2l, 1) := by decide +kernel
theorem d_Lw_law_131 : decode m_Lw_law.2.1 131 = .ok (.bipush (32), 2) := by decide +kernel
theorem d_Lw_law_133 : decode m_Lw_law.2.1 133 = .ok (.lshl, 1) := by decide +kernel
theorem d_Lw_law_134 : decode m_Lw_law.2.1 134 = .ok (.aload_n 0, 1) := by decide +kernel
theorem d_Lw_law_135 : decode m_Lw_law.2.1 135 = .ok (.iload_n 3, 1) := by decide +kernel
theorem d_Lw_law_136 : decode m_Lw_law.2.1 136 = .ok (.iconst 2, 1) := by decide +kernel
theorem d_Lw_law_137 : decode m_Lw_law.2.1 137 = .ok (.iadd, 1) := by decide +kernel
theorem d_Lw_law_138 : decode m_Lw_law.2.1 138 = .ok (.iaload, 1) := by decide +kernel
theorem d_Lw_law_139 : decode m_Lw_law.2.1 139 = .ok (.i2l, 1) := by decide +kernel
theorem d_Lw_law_140 : decode m_Lw_law.2.1 140 = .ok (.ldc2_w 21, 3) := by decide +kernel
theorem d_Lw_law_143 : decode m_Lw_law.2.1 143 = .ok (.land, 1) := by decide +kernel
theorem d_Lw_law_144 : decode m_Lw_law.2.1 144 = .ok (.lor, 1) := by decide +kernel
theorem d_Lw_law_145 : decode m_Lw_law.2.1 145 = .ok (.invokevirtual 23, 3) := by decide +kernel
theorem d_Lw_law_148 : decode m_Lw_law.2.1 148 = .ok (.aload_n 2, 1) := by decide +kernel
theorem d_Lw_law_149 : decode m_Lw_law.2.1 149 = .ok (.aload_n 0, 1) := by decide +kernel
theorem d_Lw_law_150 : decode m_Lw_law.2.1 150 = .ok (.iload_n 3, 1) := by decide +kernel
theorem d_Lw_law_151 : decode m_Lw_law.2.1 151 = .ok (.iconst 1, 1) := by decide +kernel
theorem d_Lw_law_152 : decode m_Lw_law.2.1 152 = .ok (.iadd, 1) := by decide +kernel
theorem d_Lw_law_153 : decode m_Lw_law.2.1 153 = .ok (.iaload, 1) := by decide +kernel
theorem d_Lw_law_154 : decode m_Lw_law.2.1 154 = .ok (.i2l, 1) := by decide +kernel
theorem d_Lw_law_155 : decode m_Lw_law.2.1 155 = .ok (.bipush (32), 2) := by decide +kernel
theorem d_Lw_law_157 : decode m_Lw_law.2.1 157 = .ok (.lshl, 1) := by decide +kernel
theorem d_Lw_law_158 : decode m_Lw_law.2.1 158 = .ok (.aload_n 0, 1) := by decide +kernel
theorem d_Lw_law_159 : decode m_Lw_law.2.1 159 = .ok (.iload_n 3, 1) := by decide +kernel
theorem d_Lw_law_160 : decode m_Lw_law.2.1 160 = .ok (.iconst 2, 1) := by decide +kernel
theorem d_Lw_law_161 : decode m_Lw_law.2.1 161 = .ok (.iadd, 1) := by decide +kernel
theorem d_Lw_law_162 : decode m_Lw_law.2.1 162 = .ok (.iaload, 1) := by decide +kernel
theorem d_Lw_law_163 : decode m_Lw_law.2.1 163 = .ok (.i2l, 1) := by decide +kernel
theorem d_Lw_law_164 : decode m_Lw_law.2.1 164 = .ok (.ldc2_w 21, 3) := by decide +kernel
theorem d_Lw_law_167 : decode m_Lw_law.2.1 167 = .ok (.land, 1) := by decide +kernel
theorem d_Lw_law_168 : decode m_Lw_law.2.1 168 = .ok (.lor, 1) := by decide +kernel
theorem d_Lw_law_169 : decode m_Lw_law.2.1 169 = .ok (.invokevirtual 27, 3) := by decide +kernel
theorem d_Lw_law_172 : decode m_Lw_law.2.1 172 = .ok (.if_icmp .eq (471), 3) := by decide +kernel
theorem d_Lw_law_175 : decode m_Lw_law.2.1 175 = .ok (.iconst 0, 1) := by decide +kernel
theorem d_Lw_law_176 : decode m_Lw_law.2.1 176 = .ok (.ireturn, 1) := by decide +kernel
theorem d_Lw_law_177 : decode m_Lw_law.2.1 177 = .ok (.aload_n 1, 1) := by decide +kernel
theorem d_Lw_law_178 : decode m_Lw_law.2.1 178 = .ok (.invokevirtual 28, 3) := by decide +kernel
theorem d_Lw_law_181 : decode m_Lw_law.2.1 181 = .ok (.aload_n 2, 1) := by decide +kernel
theorem d_Lw_law_182 : decode m_Lw_law.2.1 182 = .ok (.invokevirtual 31, 3) := by decide +kernel
theorem d_Lw_law_185 : decode m_Lw_law.2.1 185 = .ok (.goto (458), 3) := by decide +kernel
theorem d_Lw_law_188 : decode m_Lw_law.2.1 188 = .ok (.aload_n 1, 1) := by decide +kernel
theorem d_Lw_law_189 : decode m_Lw_law.2.1 189 = .ok (.aload_n 0, 1) := by decide +kernel
theorem d_Lw_law_190 : decode m_Lw_law.2.1 190 = .ok (.iload_n 3, 1) := by decide +kernel
theorem d_Lw_law_191 : decode m_Lw_law.2.1 191 = .ok (.iconst 1, 1) := by decide +kernel
theorem d_Lw_law_192 : decode m_Lw_law.2.1 192 = .ok (.iadd, 1) := by decide +kernel
theorem d_Lw_law_193 : decode m_Lw_law.2.1 193 = .ok (.iaload, 1) := by decide +kernel
theorem d_Lw_law_194 : decode m_Lw_law.2.1 194 = .ok (.aload_n 0, 1) := by decide +kernel
theorem d_Lw_law_195 : decode m_Lw_law.2.1 195 = .ok (.iload_n 3, 1) := by decide +kernel
theorem d_Lw_law_196 : decode m_Lw_law.2.1 196 = .ok (.iconst 2, 1) := by decide +kernel
theorem d_Lw_law_197 : decode m_Lw_law.2.1 197 = .ok (.iadd, 1) := by decide +kernel
theorem d_Lw_law_198 : decode m_Lw_law.2.1 198 = .ok (.iaload, 1) := by decide +kernel
theorem d_Lw_law_199 : decode m_Lw_law.2.1 199 = .ok (.invokevirtual 32, 3) := by decide +kernel
theorem d_Lw_law_202 : decode m_Lw_law.2.1 202 = .ok (.aload_n 2, 1) := by decide +kernel
theorem d_Lw_law_203 : decode m_Lw_law.2.1 203 = .ok (.aload_n 0, 1) := by decide +kernel
theorem d_Lw_law_204 : decode m_Lw_law.2.1 204 = .ok (.iload_n 3, 1) := by decide +kernel
theorem d_Lw_law_205 : decode m_Lw_law.2.1 205 = .ok (.iconst 1, 1) := by decide +kernel
theorem d_Lw_law_206 : decode m_Lw_law.2.1 206 = .ok (.iadd, 1) := by decide +kernel
theorem d_Lw_law_207 : decode m_Lw_law.2.1 207 = .ok (.iaload, 1) := by decide +kernel
theorem d_Lw_law_208 : decode m_Lw_law.2.1 208 = .ok (.aload_n 0, 1) := by decide +kernel
theorem d_Lw_law_209 : decode m_Lw_law.2.1 209 = .ok (.iload_n 3, 1) := by decide +kernel
theorem d_Lw_law_210 : decode m_Lw_law.2.1 210 = .ok (.iconst 2, 1) := by decide +kernel
theorem d_Lw_law_211 : decode m_Lw_law.2.1 211 = .ok (.iadd, 1) := by decide +kernel
theorem d_Lw_law_212 : decode m_Lw_law.2.1 212 = .ok (.iaload, 1) := by decide +kernel
theorem d_Lw_law_213 : decode m_Lw_law.2.1 213 = .ok (.invokevirtual 36, 3) := by decide +kernel
theorem d_Lw_law_216 : decode m_Lw_law.2.1 216 = .ok (.if_icmp .eq (427), 3) := by decide +kernel
theorem d_Lw_law_219 : decode m_Lw_law.2.1 219 = .ok (.iconst 0, 1) := by decide +kernel
theorem d_Lw_law_220 : decode m_Lw_law.2.1 220 = .ok (.ireturn, 1) := by decide +kernel
theorem d_Lw_law_221 : decode m_Lw_law.2.1 221 = .ok (.aload_n 1, 1) := by decide +kernel
theorem d_Lw_law_222 : decode m_Lw_law.2.1 222 = .ok (.aload_n 0, 1) := by decide +kernel
theorem d_Lw_law_223 : decode m_Lw_law.2.1 223 = .ok (.iload_n 3, 1) := by decide +kernel
theorem d_Lw_law_224 : decode m_Lw_law.2.1 224 = .ok (.iconst 1, 1) := by decide +kernel
theorem d_Lw_law_225 : decode m_Lw_law.2.1 225 = .ok (.iadd, 1) := by decide +kernel
theorem d_Lw_law_226 : decode m_Lw_law.2.1 226 = .ok (.iaload, 1) := by decide +kernel
theorem d_Lw_law_227 : decode m_Lw_law.2.1 227 = .ok (.aload_n 0, 1) := by decide +kernel
theorem d_Lw_law_228 : decode m_Lw_law.2.1 228 = .ok (.iload_n 3, 1) := by decide +kernel
theorem d_Lw_law_229 : decode m_Lw_law.2.1 229 = .ok (.iconst 2, 1) := by decide +kernel
theorem d_Lw_law_230 : decode m_Lw_law.2.1 230 = .ok (.iadd, 1) := by decide +kernel
theorem d_Lw_law_231 : decode m_Lw_law.2.1 231 = .ok (.iaload, 1) := by decide +kernel
theorem d_Lw_law_232 : decode m_Lw_law.2.1 232 = .ok (.invokevirtual 37, 3) := by decide +kernel
theorem d_Lw_law_235 : decode m_Lw_law.2.1 235 = .ok (.aload_n 2, 1) := by decide +kernel
theorem d_Lw_law_236 : decode m_Lw_law.2.1 236 = .ok (.aload_n 0, 1) := by decide +kernel
theorem d_Lw_law_237 : decode m_Lw_law.2.1 237 = .ok (.iload_n 3, 1) := by decide +kernel
theorem d_Lw_law_238 : decode m_Lw_law.2.1 238 = .ok (.iconst 1, 1) := by decide +kernel
theorem d_Lw_law_239 : decode m_Lw_law.2.1 239 = .ok (.iadd, 1) := by decide +kernel
theorem d_Lw_law_240 : decode m_Lw_law.2.1 240 = .ok (.iaload, 1) := by decide +kernel
theorem d_Lw_law_241 : decode m_Lw_law.2.1 241 = .ok (.aload_n 0, 1) := by decide +kernel
theorem d_Lw_law_242 : decode m_Lw_law.2.1 242 = .ok (.iload_n 3, 1) := by decide +kernel
theorem d_Lw_law_243 : decode m_Lw_law.2.1 243 = .ok (.iconst 2, 1) := by decide +kernel
theorem d_Lw_law_244 : decode m_Lw_law.2.1 244 = .ok (.iadd, 1) := by decide +kernel
theorem d_Lw_law_245 : decode m_Lw_law.2.1 245 = .ok (.iaload, 1) := by decide +kernel
theorem d_Lw_law_246 : decode m_Lw_law.2.1 246 = .ok (.invokevirtual 40, 3) := by decide +kernel
theorem d_Lw_law_249 : decode m_Lw_law.2.1 249 = .ok (.if_icmp .eq (394), 3) := by decide +kernel
theorem d_Lw_law_252 : decode m_Lw_law.2.1 252 = .ok (.iconst 0, 1) := by decide +kernel
theorem d_Lw_law_253 : decode m_Lw_law.2.1 253 = .ok (.ireturn, 1) := by decide +kernel
theorem d_Lw_law_254 : decode m_Lw_law.2.1 254 = .ok (.aload_n 1, 1) := by decide +kernel
theorem d_Lw_law_255 : decode m_Lw_law.2.1 255 = .ok (.aload_n 0, 1) := by decide +kernel
theorem d_Lw_law_256 : decode m_Lw_law.2.1 256 = .ok (.iload_n 3, 1) := by decide +kernel
theorem d_Lw_law_257 : decode m_Lw_law.2.1 257 = .ok (.iconst 1, 1) := by decide +kernel
theorem d_Lw_law_258 : decode m_Lw_law.2.1 258 = .ok (.iadd, 1) := by decide +kernel
theorem d_Lw_law_259 : decode m_Lw_law.2.1 259 = .ok (.iaload, 1) := by decide +kernel
theorem d_Lw_law_260 : decode m_Lw_law.2.1 260 = .ok (.aload_n 0, 1) := by decide +kernel
theorem d_Lw_law_261 : decode m_Lw_law.2.1 261 = .ok (.iload_n 3, 1) := by decide +kernel
theorem d_Lw_law_262 : decode m_Lw_law.2.1 262 = .ok (.iconst 2, 1) := by decide +kernel
theorem d_Lw_law_263 : decode m_Lw_law.2.1 263 = .ok (.iadd, 1) := by decide +kernel
theorem d_Lw_law_264 : decode m_Lw_law.2.1 264 = .ok (.iaload, 1) := by decide +kernel
theorem d_Lw_law_265 : decode m_Lw_law.2.1 265 = .ok (.invokevirtual 41, 3) := by decide +kernel
theorem d_Lw_law_268 : decode m_Lw_law.2.1 268 = .ok (.aload_n 2, 1) := by decide +kernel
theorem d_Lw_law_269 : decode m_Lw_law.2.1 269 = .ok (.aload_n 0, 1) := by decide +kernel
theorem d_Lw_law_270 : decode m_Lw_law.2.1 270 = .ok (.iload_n 3, 1) := by decide +kernel
theorem d_Lw_law_271 : decode m_Lw_law.2.1 271 = .ok (.iconst 1, 1) := by decide +kernel
theorem d_Lw_law_272 : decode m_Lw_law.2.1 272 = .ok (.iadd, 1) := by decide +kernel
theorem d_Lw_law_273 : decode m_Lw_law.2.1 273 = .ok (.iaload, 1) := by decide +kernel
theorem d_Lw_law_274 : decode m_Lw_law.2.1 274 = .ok (.aload_n 0, 1) := by decide +kernel
theorem d_Lw_law_275 : decode m_Lw_law.2.1 275 = .ok (.iload_n 3, 1) := by decide +kernel
theorem d_Lw_law_276 : decode m_Lw_law.2.1 276 = .ok (.iconst 2, 1) := by decide +kernel
theorem d_Lw_law_277 : decode m_Lw_law.2.1 277 = .ok (.iadd, 1) := by decide +kernel
theorem d_Lw_law_278 : decode m_Lw_law.2.1 278 = .ok (.iaload, 1) := by decide +kernel
theorem d_Lw_law_279 : decode m_Lw_law.2.1 279 = .ok (.invokevirtual 45, 3) := by decide +kernel
theorem d_Lw_law_282 : decode m_Lw_law.2.1 282 = .ok (.if_icmp .eq (361), 3) := by decide +kernel
theorem d_Lw_law_285 : decode m_Lw_law.2.1 285 = .ok (.iconst 0, 1) := by decide +kernel
theorem d_Lw_law_286 : decode m_Lw_law.2.1 286 = .ok (.ireturn, 1) := by decide +kernel
theorem d_Lw_law_287 : decode m_Lw_law.2.1 287 = .ok (.aload_n 1, 1) := by decide +kernel
theorem d_Lw_law_288 : decode m_Lw_law.2.1 288 = .ok (.aload_n 0, 1) := by decide +kernel
theorem d_Lw_law_289 : decode m_Lw_law.2.1 289 = .ok (.iload_n 3, 1) := by decide +kernel
theorem d_Lw_law_290 : decode m_Lw_law.2.1 290 = .ok (.iconst 1, 1) := by decide +kernel
theorem d_Lw_law_291 : decode m_Lw_law.2.1 291 = .ok (.iadd, 1) := by decide +kernel
theorem d_Lw_law_292 : decode m_Lw_law.2.1 292 = .ok (.iaload, 1) := by decide +kernel
theorem d_Lw_law_293 : decode m_Lw_law.2.1 293 = .ok (.aload_n 0, 1) := by decide +kernel
theorem d_Lw_law_294 : decode m_Lw_law.2.1 294 = .ok (.iload_n 3, 1) := by decide +kernel
theorem d_Lw_law_295 : decode m_Lw_law.2.1 295 = .ok (.iconst 2, 1) := by decide +kernel
theorem d_Lw_law_296 : decode m_Lw_law.2.1 296 = .ok (.iadd, 1) := by decide +kernel
theorem d_Lw_law_297 : decode m_Lw_law.2.1 297 = .ok (.iaload, 1) := by decide +kernel
theorem d_Lw_law_298 : decode m_Lw_law.2.1 298 = .ok (.aload_n 0, 1) := by decide +kernel
theorem d_Lw_law_299 : decode m_Lw_law.2.1 299 = .ok (.iload_n 3, 1) := by decide +kernel
theorem d_Lw_law_300 : decode m_Lw_law.2.1 300 = .ok (.iconst 3, 1) := by decide +kernel
theorem d_Lw_law_301 : decode m_Lw_law.2.1 301 = .ok (.iadd, 1) := by decide +kernel
theorem d_Lw_law_302 : decode m_Lw_law.2.1 302 = .ok (.iaload, 1) := by decide +kernel
theorem d_Lw_law_303 : decode m_Lw_law.2.1 303 = .ok (.invokevirtual 46, 3) := by decide +kernel
theorem d_Lw_law_306 : decode m_Lw_law.2.1 306 = .ok (.aload_n 2, 1) := by decide +kernel
theorem d_Lw_law_307 : decode m_Lw_law.2.1 307 = .ok (.aload_n 0, 1) := by decide +kernel
theorem d_Lw_law_308 : decode m_Lw_law.2.1 308 = .ok (.iload_n 3, 1) := by decide +kernel
theorem d_Lw_law_309 : decode m_Lw_law.2.1 309 = .ok (.iconst 1, 1) := by decide +kernel
theorem d_Lw_law_310 : decode m_Lw_law.2.1 310 = .ok (.iadd, 1) := by decide +kernel
theorem d_Lw_law_311 : decode m_Lw_law.2.1 311 = .ok (.iaload, 1) := by decide +kernel
theorem d_Lw_law_312 : decode m_Lw_law.2.1 312 = .ok (.aload_n 0, 1) := by decide +kernel
theorem d_Lw_law_313 : decode m_Lw_law.2.1 313 = .ok (.iload_n 3, 1) := by decide +kernel
theorem d_Lw_law_314 : decode m_Lw_law.2.1 314 = .ok (.iconst 2, 1) := by decide +kernel
theorem d_Lw_law_315 : decode m_Lw_law.2.1 315 = .ok (.iadd, 1) := by decide +kernel
theorem d_Lw_law_316 : decode m_Lw_law.2.1 316 = .ok (.iaload, 1) := by decide +kernel
theorem d_Lw_law_317 : decode m_Lw_law.2.1 317 = .ok (.aload_n 0, 1) := by decide +kernel
theorem d_Lw_law_318 : decode m_Lw_law.2.1 318 = .ok (.iload_n 3, 1) := by decide +kernel
theorem d_Lw_law_319 : decode m_Lw_law.2.1 319 = .ok (.iconst 3, 1) := by decide +kernel
theorem d_Lw_law_320 : decode m_Lw_law.2.1 320 = .ok (.iadd, 1) := by decide +kernel
theorem d_Lw_law_321 : decode m_Lw_law.2.1 321 = .ok (.iaload, 1) := by decide +kernel
theorem d_Lw_law_322 : decode m_Lw_law.2.1 322 = .ok (.invokevirtual 50, 3) := by decide +kernel
theorem d_Lw_law_325 : decode m_Lw_law.2.1 325 = .ok (.if_icmp .eq (318), 3) := by decide +kernel
theorem d_Lw_law_328 : decode m_Lw_law.2.1 328 = .ok (.iconst 0, 1) := by decide +kernel
theorem d_Lw_law_329 : decode m_Lw_law.2.1 329 = .ok (.ireturn, 1) := by decide +kernel
theorem d_Lw_law_330 : decode m_Lw_law.2.1 330 = .ok (.aload_n 1, 1) := by decide +kernel
theorem d_Lw_law_331 : decode m_Lw_law.2.1 331 = .ok (.aload_n 0, 1) := by decide +kernel
theorem d_Lw_law_332 : decode m_Lw_law.2.1 332 = .ok (.iload_n 3, 1) := by decide +kernel
theorem d_Lw_law_333 : decode m_Lw_law.2.1 333 = .ok (.iconst 1, 1) := by decide +kernel
theorem d_Lw_law_334 : decode m_Lw_law.2.1 334 = .ok (.iadd, 1) := by decide +kernel
theorem d_Lw_law_335 : decode m_Lw_law.2.1 335 = .ok (.iaload, 1) := by decide +kernel
theorem d_Lw_law_336 : decode m_Lw_law.2.1 336 = .ok (.invokevirtual 51, 3) := by decide +kernel
theorem d_Lw_law_339 : decode m_Lw_law.2.1 339 = .ok (.aload_n 2, 1) := by decide +kernel
theorem d_Lw_law_340 : decode m_Lw_law.2.1 340 = .ok (.aload_n 0, 1) := by decide +kernel
theorem d_Lw_law_341 : decode m_Lw_law.2.1 341 = .ok (.iload_n 3, 1) := by decide +kernel
theorem d_Lw_law_342 : decode m_Lw_law.2.1 342 = .ok (.iconst 1, 1) := by decide +kernel
theorem d_Lw_law_343 : decode m_Lw_law.2.1 343 = .ok (.iadd, 1) := by decide +kernel
theorem d_Lw_law_344 : decode m_Lw_law.2.1 344 = .ok (.iaload, 1) := by decide +kernel
theorem d_Lw_law_345 : decode m_Lw_law.2.1 345 = .ok (.invokevirtual 55, 3) := by decide +kernel
theorem d_Lw_law_348 : decode m_Lw_law.2.1 348 = .ok (.if_icmp .eq (295), 3) := by decide +kernel
theorem d_Lw_law_351 : decode m_Lw_law.2.1 351 = .ok (.iconst 0, 1) := by decide +kernel
theorem d_Lw_law_352 : decode m_Lw_law.2.1 352 = .ok (.ireturn, 1) := by decide +kernel
theorem d_Lw_law_353 : decode m_Lw_law.2.1 353 = .ok (.aload_n 1, 1) := by decide +kernel
theorem d_Lw_law_354 : decode m_Lw_law.2.1 354 = .ok (.aload_n 0, 1) := by decide +kernel
theorem d_Lw_law_355 : decode m_Lw_law.2.1 355 = .ok (.iload_n 3, 1) := by decide +kernel
theorem d_Lw_law_356 : decode m_Lw_law.2.1 356 = .ok (.iconst 1, 1) := by decide +kernel
theorem d_Lw_law_357 : decode m_Lw_law.2.1 357 = .ok (.iadd, 1) := by decide +kernel
theorem d_Lw_law_358 : decode m_Lw_law.2.1 358 = .ok (.iaload, 1) := by decide +kernel
theorem d_Lw_law_359 : decode m_Lw_law.2.1 359 = .ok (.invokevirtual 56, 3) := by decide +kernel
theorem d_Lw_law_362 : decode m_Lw_law.2.1 362 = .ok (.aload_n 2, 1) := by decide +kernel
theorem d_Lw_law_363 : decode m_Lw_law.2.1 363 = .ok (.aload_n 0, 1) := by decide +kernel
theorem d_Lw_law_364 : decode m_Lw_law.2.1 364 = .ok (.iload_n 3, 1) := by decide +kernel
theorem d_Lw_law_365 : decode m_Lw_law.2.1 365 = .ok (.iconst 1, 1) := by decide +kernel
theorem d_Lw_law_366 : decode m_Lw_law.2.1 366 = .ok (.iadd, 1) := by decide +kernel
theorem d_Lw_law_367 : decode m_Lw_law.2.1 367 = .ok (.iaload, 1) := by decide +kernel
theorem d_Lw_law_368 : decode m_Lw_law.2.1 368 = .ok (.invokevirtual 59, 3) := by decide +kernel
theorem d_Lw_law_371 : decode m_Lw_law.2.1 371 = .ok (.if_icmp .eq (272), 3) := by decide +kernel
theorem d_Lw_law_374 : decode m_Lw_law.2.1 374 = .ok (.iconst 0, 1) := by decide +kernel
theorem d_Lw_law_375 : decode m_Lw_law.2.1 375 = .ok (.ireturn, 1) := by decide +kernel
theorem d_Lw_law_376 : decode m_Lw_law.2.1 376 = .ok (.aload_n 1, 1) := by decide +kernel
theorem d_Lw_law_377 : decode m_Lw_law.2.1 377 = .ok (.invokevirtual 60, 3) := by decide +kernel
theorem d_Lw_law_380 : decode m_Lw_law.2.1 380 = .ok (.aload_n 2, 1) := by decide +kernel
theorem d_Lw_law_381 : decode m_Lw_law.2.1 381 = .ok (.invokevirtual 64, 3) := by decide +kernel
theorem d_Lw_law_384 : decode m_Lw_law.2.1 384 = .ok (.if_icmp .eq (259), 3) := by decide +kernel
theorem d_Lw_law_387 : decode m_Lw_law.2.1 387 = .ok (.iconst 0, 1) := by decide +kernel
theorem d_Lw_law_388 : decode m_Lw_law.2.1 388 = .ok (.ireturn, 1) := by decide +kernel
theorem d_Lw_law_389 : decode m_Lw_law.2.1 389 = .ok (.aload_n 1, 1) := by decide +kernel
theorem d_Lw_law_390 : decode m_Lw_law.2.1 390 = .ok (.invokevirtual 65, 3) := by decide +kernel
theorem d_Lw_law_393 : decode m_Lw_law.2.1 393 = .ok (.aload_n 2, 1) := by decide +kernel
theorem d_Lw_law_394 : decode m_Lw_law.2.1 394 = .ok (.invokevirtual 68, 3) := by decide +kernel
theorem d_Lw_law_397 : decode m_Lw_law.2.1 397 = .ok (.if_icmp .eq (246), 3) := by decide +kernel
theorem d_Lw_law_400 : decode m_Lw_law.2.1 400 = .ok (.iconst 0, 1) := by decide +kernel
theorem d_Lw_law_401 : decode m_Lw_law.2.1 401 = .ok (.ireturn, 1) := by decide +kernel
theorem d_Lw_law_402 : decode m_Lw_law.2.1 402 = .ok (.aload_n 1, 1) := by decide +kernel
theorem d_Lw_law_403 : decode m_Lw_law.2.1 403 = .ok (.aload_n 0, 1) := by decide +kernel
theorem d_Lw_law_404 : decode m_Lw_law.2.1 404 = .ok (.iload_n 3, 1) := by decide +kernel
theorem d_Lw_law_405 : decode m_Lw_law.2.1 405 = .ok (.iconst 1, 1) := by decide +kernel
theorem d_Lw_law_406 : decode m_Lw_law.2.1 406 = .ok (.iadd, 1) := by decide +kernel
theorem d_Lw_law_407 : decode m_Lw_law.2.1 407 = .ok (.iaload, 1) := by decide +kernel
theorem d_Lw_law_408 : decode m_Lw_law.2.1 408 = .ok (.invokevirtual 69, 3) := by decide +kernel
theorem d_Lw_law_411 : decode m_Lw_law.2.1 411 = .ok (.aload_n 2, 1) := by decide +kernel
theorem d_Lw_law_412 : decode m_Lw_law.2.1 412 = .ok (.aload_n 0, 1) := by decide +kernel
theorem d_Lw_law_413 : decode m_Lw_law.2.1 413 = .ok (.iload_n 3, 1) := by decide +kernel
theorem d_Lw_law_414 : decode m_Lw_law.2.1 414 = .ok (.iconst 1, 1) := by decide +kernel
theorem d_Lw_law_415 : decode m_Lw_law.2.1 415 = .ok (.iadd, 1) := by decide +kernel
theorem d_Lw_law_416 : decode m_Lw_law.2.1 416 = .ok (.iaload, 1) := by decide +kernel
theorem d_Lw_law_417 : decode m_Lw_law.2.1 417 = .ok (.invokevirtual 72, 3) := by decide +kernel
theorem d_Lw_law_420 : decode m_Lw_law.2.1 420 = .ok (.if_icmp .eq (223), 3) := by decide +kernel
theorem d_Lw_law_423 : decode m_Lw_law.2.1 423 = .ok (.iconst 0, 1) := by decide +kernel
theorem d_Lw_law_424 : decode m_Lw_law.2.1 424 = .ok (.ireturn, 1) := by decide +kernel
theorem d_Lw_law_425 : decode m_Lw_law.2.1 425 = .ok (.aload_n 1, 1) := by decide +kernel
theorem d_Lw_law_426 : decode m_Lw_law.2.1 426 = .ok (.aload_n 0, 1) := by decide +kernel
theorem d_Lw_law_427 : decode m_Lw_law.2.1 427 = .ok (.iload_n 3, 1) := by decide +kernel
theorem d_Lw_law_428 : decode m_Lw_law.2.1 428 = .ok (.iconst 1, 1) := by decide +kernel
theorem d_Lw_law_429 : decode m_Lw_law.2.1 429 = .ok (.iadd, 1) := by decide +kernel
theorem d_Lw_law_430 : decode m_Lw_law.2.1 430 = .ok (.iaload, 1) := by decide +kernel
theorem d_Lw_law_431 : decode m_Lw_law.2.1 431 = .ok (.invokevirtual 73, 3) := by decide +kernel
theorem d_Lw_law_434 : decode m_Lw_law.2.1 434 = .ok (.aload_n 2, 1) := by decide +kernel
theorem d_Lw_law_435 : decode m_Lw_law.2.1 435 = .ok (.aload_n 0, 1) := by decide +kernel
theorem d_Lw_law_436 : decode m_Lw_law.2.1 436 = .ok (.iload_n 3, 1) := by decide +kernel
theorem d_Lw_law_437 : decode m_Lw_law.2.1 437 = .ok (.iconst 1, 1) := by decide +kernel
theorem d_Lw_law_438 : decode m_Lw_law.2.1 438 = .ok (.iadd, 1) := by decide +kernel
theorem d_Lw_law_439 : decode m_Lw_law.2.1 439 = .ok (.iaload, 1) := by decide +kernel
theorem d_Lw_law_440 : decode m_Lw_law.2.1 440 = .ok (.invokevirtual 76, 3) := by decide +kernel
theorem d_Lw_law_443 : decode m_Lw_law.2.1 443 = .ok (.if_icmp .eq (200), 3) := by decide +kernel
theorem d_Lw_law_446 : decode m_Lw_law.2.1 446 = .ok (.iconst 0, 1) := by decide +kernel
theorem d_Lw_law_447 : decode m_Lw_law.2.1 447 = .ok (.ireturn, 1) := by decide +kernel
theorem d_Lw_law_448 : decode m_Lw_law.2.1 448 = .ok (.aload_n 1, 1) := by decide +kernel
theorem d_Lw_law_449 : decode m_Lw_law.2.1 449 = .ok (.aload_n 0, 1) := by decide +kernel
theorem d_Lw_law_450 : decode m_Lw_law.2.1 450 = .ok (.iload_n 3, 1) := by decide +kernel
theorem d_Lw_law_451 : decode m_Lw_law.2.1 451 = .ok (.iconst 1, 1) := by decide +kernel
theorem d_Lw_law_452 : decode m_Lw_law.2.1 452 = .ok (.iadd, 1) := by decide +kernel
theorem d_Lw_law_453 : decode m_Lw_law.2.1 453 = .ok (.iaload, 1) := by decide +kernel
theorem d_Lw_law_454 : decode m_Lw_law.2.1 454 = .ok (.aload_n 0, 1) := by decide +kernel
theorem d_Lw_law_455 : decode m_Lw_law.2.1 455 = .ok (.iload_n 3, 1) := by decide +kernel
theorem d_Lw_law_456 : decode m_Lw_law.2.1 456 = .ok (.iconst 2, 1) := by decide +kernel
theorem d_Lw_law_457 : decode m_Lw_law.2.1 457 = .ok (.iadd, 1) := by decide +kernel
theorem d_Lw_law_458 : decode m_Lw_law.2.1 458 = .ok (.iaload, 1) := by decide +kernel
theorem d_Lw_law_459 : decode m_Lw_law.2.1 459 = .ok (.aload_n 0, 1) := by decide +kernel
theorem d_Lw_law_460 : decode m_Lw_law.2.1 460 = .ok (.iload_n 3, 1) := by decide +kernel
theorem d_Lw_law_461 : decode m_Lw_law.2.1 461 = .ok (.iconst 3, 1) := by decide +kernel
theorem d_Lw_law_462 : decode m_Lw_law.2.1 462 = .ok (.iadd, 1) := by decide +kernel
theorem d_Lw_law_463 : decode m_Lw_law.2.1 463 = .ok (.iaload, 1) := by decide +kernel
theorem d_Lw_law_464 : decode m_Lw_law.2.1 464 = .ok (.invokevirtual 77, 3) := by decide +kernel
theorem d_Lw_law_467 : decode m_Lw_law.2.1 467 = .ok (.aload_n 2, 1) := by decide +kernel
theorem d_Lw_law_468 : decode m_Lw_law.2.1 468 = .ok (.aload_n 0, 1) := by decide +kernel
theorem d_Lw_law_469 : decode m_Lw_law.2.1 469 = .ok (.iload_n 3, 1) := by decide +kernel
theorem d_Lw_law_470 : decode m_Lw_law.2.1 470 = .ok (.iconst 1, 1) := by decide +kernel
theorem d_Lw_law_471 : decode m_Lw_law.2.1 471 = .ok (.iadd, 1) := by decide +kernel
theorem d_Lw_law_472 : decode m_Lw_law.2.1 472 = .ok (.iaload, 1) := by decide +kernel
theorem d_Lw_law_473 : decode m_Lw_law.2.1 473 = .ok (.aload_n 0, 1) := by decide +kernel
theorem d_Lw_law_474 : decode m_Lw_law.2.1 474 = .ok (.iload_n 3, 1) := by decide +kernel
theorem d_Lw_law_475 : decode m_Lw_law.2.1 475 = .ok (.iconst 2, 1) := by decide +kernel
theorem d_Lw_law_476 : decode m_Lw_law.2.1 476 = .ok (.iadd, 1) := by decide +kernel
theorem d_Lw_law_477 : decode m_Lw_law.2.1 477 = .ok (.iaload, 1) := by decide +kernel
theorem d_Lw_law_478 : decode m_Lw_law.2.1 478 = .ok (.aload_n 0, 1) := by decide +kernel
theorem d_Lw_law_479 : decode m_Lw_law.2.1 479 = .ok (.iload_n 3, 1) := by decide +kernel
theorem d_Lw_law_480 : decode m_Lw_law.2.1 480 = .ok (.iconst 3, 1) := by decide +kernel
theorem d_Lw_law_481 : decode m_Lw_law.2.1 481 = .ok (.iadd, 1) := by decide +kernel
theorem d_Lw_law_482 : decode m_Lw_law.2.1 482 = .ok (.iaload, 1) := by decide +kernel
theorem d_Lw_law_483 : decode m_Lw_law.2.1 483 = .ok (.invokevirtual 81, 3) := by decide +kernel
theorem d_Lw_law_486 : decode m_Lw_law.2.1 486 = .ok (.if_icmp .eq (157), 3) := by decide +kernel
theorem d_Lw_law_489 : decode m_Lw_law.2.1 489 = .ok (.iconst 0, 1) := by decide +kernel
theorem d_Lw_law_490 : decode m_Lw_law.2.1 490 = .ok (.ireturn, 1) := by decide +kernel
theorem d_Lw_law_491 : decode m_Lw_law.2.1 491 = .ok (.aload_n 1, 1) := by decide +kernel
theorem d_Lw_law_492 : decode m_Lw_law.2.1 492 = .ok (.aload_n 0, 1) := by decide +kernel
theorem d_Lw_law_493 : decode m_Lw_law.2.1 493 = .ok (.iload_n 3, 1) := by decide +kernel
theorem d_Lw_law_494 : decode m_Lw_law.2.1 494 = .ok (.iconst 1, 1) := by decide +kernel
theorem d_Lw_law_495 : decode m_Lw_law.2.1 495 = .ok (.iadd, 1) := by decide +kernel
theorem d_Lw_law_496 : decode m_Lw_law.2.1 496 = .ok (.iaload, 1) := by decide +kernel
theorem d_Lw_law_497 : decode m_Lw_law.2.1 497 = .ok (.invokevirtual 82, 3) := by decide +kernel
theorem d_Lw_law_500 : decode m_Lw_law.2.1 500 = .ok (.aload_n 2, 1) := by decide +kernel
theorem d_Lw_law_501 : decode m_Lw_law.2.1 501 = .ok (.aload_n 0, 1) := by decide +kernel
theorem d_Lw_law_502 : decode m_Lw_law.2.1 502 = .ok (.iload_n 3, 1) := by decide +kernel
theorem d_Lw_law_503 : decode m_Lw_law.2.1 503 = .ok (.iconst 1, 1) := by decide +kernel
theorem d_Lw_law_504 : decode m_Lw_law.2.1 504 = .ok (.iadd, 1) := by decide +kernel
theorem d_Lw_law_505 : decode m_Lw_law.2.1 505 = .ok (.iaload, 1) := by decide +kernel
theorem d_Lw_law_506 : decode m_Lw_law.2.1 506 = .ok (.invokevirtual 86, 3) := by decide +kernel
theorem d_Lw_law_509 : decode m_Lw_law.2.1 509 = .ok (.if_icmp .eq (134), 3) := by decide +kernel
theorem d_Lw_law_512 : decode m_Lw_law.2.1 512 = .ok (.iconst 0, 1) := by decide +kernel
theorem d_Lw_law_513 : decode m_Lw_law.2.1 513 = .ok (.ireturn, 1) := by decide +kernel
theorem d_Lw_law_514 : decode m_Lw_law.2.1 514 = .ok (.aload_n 1, 1) := by decide +kernel
theorem d_Lw_law_515 : decode m_Lw_law.2.1 515 = .ok (.aload_n 0, 1) := by decide +kernel
theorem d_Lw_law_516 : decode m_Lw_law.2.1 516 = .ok (.iload_n 3, 1) := by decide +kernel
theorem d_Lw_law_517 : decode m_Lw_law.2.1 517 = .ok (.iconst 1, 1) := by decide +kernel
theorem d_Lw_law_518 : decode m_Lw_law.2.1 518 = .ok (.iadd, 1) := by decide +kernel
theorem d_Lw_law_519 : decode m_Lw_law.2.1 519 = .ok (.iaload, 1) := by decide +kernel
theorem d_Lw_law_520 : decode m_Lw_law.2.1 520 = .ok (.aload_n 0, 1) := by decide +kernel
theorem d_Lw_law_521 : decode m_Lw_law.2.1 521 = .ok (.iload_n 3, 1) := by decide +kernel
theorem d_Lw_law_522 : decode m_Lw_law.2.1 522 = .ok (.iconst 2, 1) := by decide +kernel
theorem d_Lw_law_523 : decode m_Lw_law.2.1 523 = .ok (.iadd, 1) := by decide +kernel
theorem d_Lw_law_524 : decode m_Lw_law.2.1 524 = .ok (.iaload, 1) := by decide +kernel
theorem d_Lw_law_525 : decode m_Lw_law.2.1 525 = .ok (.invokevirtual 87, 3) := by decide +kernel
theorem d_Lw_law_528 : decode m_Lw_law.2.1 528 = .ok (.aload_n 2, 1) := by decide +kernel
theorem d_Lw_law_529 : decode m_Lw_law.2.1 529 = .ok (.aload_n 0, 1) := by decide +kernel
theorem d_Lw_law_530 : decode m_Lw_law.2.1 530 = .ok (.iload_n 3, 1) := by decide +kernel
theorem d_Lw_law_531 : decode m_Lw_law.2.1 531 = .ok (.iconst 1, 1) := by decide +kernel
theorem d_Lw_law_532 : decode m_Lw_law.2.1 532 = .ok (.iadd, 1) := by decide +kernel
theorem d_Lw_law_533 : decode m_Lw_law.2.1 533 = .ok (.iaload, 1) := by decide +kernel
theorem d_Lw_law_534 : decode m_Lw_law.2.1 534 = .ok (.aload_n 0, 1) := by decide +kernel
theorem d_Lw_law_535 : decode m_Lw_law.2.1 535 = .ok (.iload_n 3, 1) := by decide +kernel
theorem d_Lw_law_536 : decode m_Lw_law.2.1 536 = .ok (.iconst 2, 1) := by decide +kernel
theorem d_Lw_law_537 : decode m_Lw_law.2.1 537 = .ok (.iadd, 1) := by decide +kernel
theorem d_Lw_law_538 : decode m_Lw_law.2.1 538 = .ok (.iaload, 1) := by decide +kernel
theorem d_Lw_law_539 : decode m_Lw_law.2.1 539 = .ok (.invokevirtual 90, 3) := by decide +kernel
theorem d_Lw_law_542 : decode m_Lw_law.2.1 542 = .ok (.if_icmp .eq (101), 3) := by decide +kernel
theorem d_Lw_law_545 : decode m_Lw_law.2.1 545 = .ok (.iconst 0, 1) := by decide +kernel
theorem d_Lw_law_546 : decode m_Lw_law.2.1 546 = .ok (.ireturn, 1) := by decide +kernel
theorem d_Lw_law_547 : decode m_Lw_law.2.1 547 = .ok (.aload_n 1, 1) := by decide +kernel
theorem d_Lw_law_548 : decode m_Lw_law.2.1 548 = .ok (.aload_n 0, 1) := by decide +kernel
theorem d_Lw_law_549 : decode m_Lw_law.2.1 549 = .ok (.iload_n 3, 1) := by decide +kernel
theorem d_Lw_law_550 : decode m_Lw_law.2.1 550 = .ok (.iconst 1, 1) := by decide +kernel
theorem d_Lw_law_551 : decode m_Lw_law.2.1 551 = .ok (.iadd, 1) := by decide +kernel
theorem d_Lw_law_552 : decode m_Lw_law.2.1 552 = .ok (.iaload, 1) := by decide +kernel
theorem d_Lw_law_553 : decode m_Lw_law.2.1 553 = .ok (.aload_n 0, 1) := by decide +kernel
theorem d_Lw_law_554 : decode m_Lw_law.2.1 554 = .ok (.iload_n 3, 1) := by decide +kernel
theorem d_Lw_law_555 : decode m_Lw_law.2.1 555 = .ok (.iconst 2, 1) := by decide +kernel
theorem d_Lw_law_556 : decode m_Lw_law.2.1 556 = .ok (.iadd, 1) := by decide +kernel
theorem d_Lw_law_557 : decode m_Lw_law.2.1 557 = .ok (.iaload, 1) := by decide +kernel
theorem d_Lw_law_558 : decode m_Lw_law.2.1 558 = .ok (.aload_n 0, 1) := by decide +kernel
theorem d_Lw_law_559 : decode m_Lw_law.2.1 559 = .ok (.iload_n 3, 1) := by decide +kernel
theorem d_Lw_law_560 : decode m_Lw_law.2.1 560 = .ok (.iconst 3, 1) := by decide +kernel
theorem d_Lw_law_561 : decode m_Lw_law.2.1 561 = .ok (.iadd, 1) := by decide +kernel
theorem d_Lw_law_562 : decode m_Lw_law.2.1 562 = .ok (.iaload, 1) := by decide +kernel
theorem d_Lw_law_563 : decode m_Lw_law.2.1 563 = .ok (.invokevirtual 91, 3) := by decide +kernel
theorem d_Lw_law_566 : decode m_Lw_law.2.1 566 = .ok (.aload_n 2, 1) := by decide +kernel
theorem d_Lw_law_567 : decode m_Lw_law.2.1 567 = .ok (.aload_n 0, 1) := by decide +kernel
theorem d_Lw_law_568 : decode m_Lw_law.2.1 568 = .ok (.iload_n 3, 1) := by decide +kernel
theorem d_Lw_law_569 : decode m_Lw_law.2.1 569 = .ok (.iconst 1, 1) := by decide +kernel
theorem d_Lw_law_570 : decode m_Lw_law.2.1 570 = .ok (.iadd, 1) := by decide +kernel
theorem d_Lw_law_571 : decode m_Lw_law.2.1 571 = .ok (.iaload, 1) := by decide +kernel
theorem d_Lw_law_572 : decode m_Lw_law.2.1 572 = .ok (.aload_n 0, 1) := by decide +kernel
theorem d_Lw_law_573 : decode m_Lw_law.2.1 573 = .ok (.iload_n 3, 1) := by decide +kernel
theorem d_Lw_law_574 : decode m_Lw_law.2.1 574 = .ok (.iconst 2, 1) := by decide +kernel
theorem d_Lw_law_575 : decode m_Lw_law.2.1 575 = .ok (.iadd, 1) := by decide +kernel
theorem d_Lw_law_576 : decode m_Lw_law.2.1 576 = .ok (.iaload, 1) := by decide +kernel
theorem d_Lw_law_577 : decode m_Lw_law.2.1 577 = .ok (.aload_n 0, 1) := by decide +kernel
theorem d_Lw_law_578 : decode m_Lw_law.2.1 578 = .ok (.iload_n 3, 1) := by decide +kernel
theorem d_Lw_law_579 : decode m_Lw_law.2.1 579 = .ok (.iconst 3, 1) := by decide +kernel
theorem d_Lw_law_580 : decode m_Lw_law.2.1 580 = .ok (.iadd, 1) := by decide +kernel
theorem d_Lw_law_581 : decode m_Lw_law.2.1 581 = .ok (.iaload, 1) := by decide +kernel
theorem d_Lw_law_582 : decode m_Lw_law.2.1 582 = .ok (.invokevirtual 94, 3) := by decide +kernel
theorem d_Lw_law_585 : decode m_Lw_law.2.1 585 = .ok (.if_icmp .eq (58), 3) := by decide +kernel
theorem d_Lw_law_588 : decode m_Lw_law.2.1 588 = .ok (.iconst 0, 1) := by decide +kernel
theorem d_Lw_law_589 : decode m_Lw_law.2.1 589 = .ok (.ireturn, 1) := by decide +kernel
theorem d_Lw_law_590 : decode m_Lw_law.2.1 590 = .ok (.aload_n 1, 1) := by decide +kernel
theorem d_Lw_law_591 : decode m_Lw_law.2.1 591 = .ok (.aload_n 0, 1) := by decide +kernel
theorem d_Lw_law_592 : decode m_Lw_law.2.1 592 = .ok (.iload_n 3, 1) := by decide +kernel
theorem d_Lw_law_593 : decode m_Lw_law.2.1 593 = .ok (.iconst 1, 1) := by decide +kernel
theorem d_Lw_law_594 : decode m_Lw_law.2.1 594 = .ok (.iadd, 1) := by decide +kernel
theorem d_Lw_law_595 : decode m_Lw_law.2.1 595 = .ok (.iaload, 1) := by decide +kernel
theorem d_Lw_law_596 : decode m_Lw_law.2.1 596 = .ok (.aload_n 0, 1) := by decide +kernel
theorem d_Lw_law_597 : decode m_Lw_law.2.1 597 = .ok (.iload_n 3, 1) := by decide +kernel
theorem d_Lw_law_598 : decode m_Lw_law.2.1 598 = .ok (.iconst 2, 1) := by decide +kernel
theorem d_Lw_law_599 : decode m_Lw_law.2.1 599 = .ok (.iadd, 1) := by decide +kernel
theorem d_Lw_law_600 : decode m_Lw_law.2.1 600 = .ok (.iaload, 1) := by decide +kernel
theorem d_Lw_law_601 : decode m_Lw_law.2.1 601 = .ok (.aload_n 0, 1) := by decide +kernel
theorem d_Lw_law_602 : decode m_Lw_law.2.1 602 = .ok (.iload_n 3, 1) := by decide +kernel
theorem d_Lw_law_603 : decode m_Lw_law.2.1 603 = .ok (.iconst 3, 1) := by decide +kernel
theorem d_Lw_law_604 : decode m_Lw_law.2.1 604 = .ok (.iadd, 1) := by decide +kernel
theorem d_Lw_law_605 : decode m_Lw_law.2.1 605 = .ok (.iaload, 1) := by decide +kernel
theorem d_Lw_law_606 : decode m_Lw_law.2.1 606 = .ok (.aload_n 0, 1) := by decide +kernel
theorem d_Lw_law_607 : decode m_Lw_law.2.1 607 = .ok (.iload_n 3, 1) := by decide +kernel
theorem d_Lw_law_608 : decode m_Lw_law.2.1 608 = .ok (.iconst 4, 1) := by decide +kernel
theorem d_Lw_law_609 : decode m_Lw_law.2.1 609 = .ok (.iadd, 1) := by decide +kernel
theorem d_Lw_law_610 : decode m_Lw_law.2.1 610 = .ok (.iaload, 1) := by decide +kernel
theorem d_Lw_law_611 : decode m_Lw_law.2.1 611 = .ok (.invokevirtual 95, 3) := by decide +kernel
theorem d_Lw_law_614 : decode m_Lw_law.2.1 614 = .ok (.aload_n 2, 1) := by decide +kernel
theorem d_Lw_law_615 : decode m_Lw_law.2.1 615 = .ok (.aload_n 0, 1) := by decide +kernel
theorem d_Lw_law_616 : decode m_Lw_law.2.1 616 = .ok (.iload_n 3, 1) := by decide +kernel
theorem d_Lw_law_617 : decode m_Lw_law.2.1 617 = .ok (.iconst 1, 1) := by decide +kernel
theorem d_Lw_law_618 : decode m_Lw_law.2.1 618 = .ok (.iadd, 1) := by decide +kernel
theorem d_Lw_law_619 : decode m_Lw_law.2.1 619 = .ok (.iaload, 1) := by decide +kernel
theorem d_Lw_law_620 : decode m_Lw_law.2.1 620 = .ok (.aload_n 0, 1) := by decide +kernel
theorem d_Lw_law_621 : decode m_Lw_law.2.1 621 = .ok (.iload_n 3, 1) := by decide +kernel
theorem d_Lw_law_622 : decode m_Lw_law.2.1 622 = .ok (.iconst 2, 1) := by decide +kernel
theorem d_Lw_law_623 : decode m_Lw_law.2.1 623 = .ok (.iadd, 1) := by decide +kernel
theorem d_Lw_law_624 : decode m_Lw_law.2.1 624 = .ok (.iaload, 1) := by decide +kernel
theorem d_Lw_law_625 : decode m_Lw_law.2.1 625 = .ok (.aload_n 0, 1) := by decide +kernel
theorem d_Lw_law_626 : decode m_Lw_law.2.1 626 = .ok (.iload_n 3, 1) := by decide +kernel
theorem d_Lw_law_627 : decode m_Lw_law.2.1 627 = .ok (.iconst 3, 1) := by decide +kernel
theorem d_Lw_law_628 : decode m_Lw_law.2.1 628 = .ok (.iadd, 1) := by decide +kernel
theorem d_Lw_law_629 : decode m_Lw_law.2.1 629 = .ok (.iaload, 1) := by decide +kernel
theorem d_Lw_law_630 : decode m_Lw_law.2.1 630 = .ok (.aload_n 0, 1) := by decide +kernel
theorem d_Lw_law_631 : decode m_Lw_law.2.1 631 = .ok (.iload_n 3, 1) := by decide +kernel
theorem d_Lw_law_632 : decode m_Lw_law.2.1 632 = .ok (.iconst 4, 1) := by decide +kernel
theorem d_Lw_law_633 : decode m_Lw_law.2.1 633 = .ok (.iadd, 1) := by decide +kernel
theorem d_Lw_law_634 : decode m_Lw_law.2.1 634 = .ok (.iaload, 1) := by decide +kernel
theorem d_Lw_law_635 : decode m_Lw_law.2.1 635 = .ok (.invokevirtual 99, 3) := by decide +kernel
theorem d_Lw_law_638 : decode m_Lw_law.2.1 638 = .ok (.if_icmp .eq (5), 3) := by decide +kernel
theorem d_Lw_law_641 : decode m_Lw_law.2.1 641 = .ok (.iconst 0, 1) := by decide +kernel
theorem d_Lw_law_642 : decode m_Lw_law.2.1 642 = .ok (.ireturn, 1) := by decide +kernel
theorem d_Lw_law_643 : decode m_Lw_law.2.1 643 = .ok (.iinc 3 (5), 3) := by decide +kernel
theorem d_Lw_law_646 : decode m_Lw_law.2.1 646 = .ok (.goto (-618), 3) := by decide +kernel
theorem d_Lw_law_649 : decode m_Lw_law.2.1 649 = .ok (.iconst 1, 1) := by decide +kernel
theorem d_Lw_law_650 : decode m_Lw_law.2.1 650 = .ok (.ireturn, 1) := by decide +kernel
