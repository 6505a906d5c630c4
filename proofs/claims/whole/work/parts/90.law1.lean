/-! The law: its code, and the rules of its walk. -/
def m_La_law : tb_MD := (x, code, maxLocals, ret, [])
theorem d_La_law_0 : decode m_La_law.2.1 0 = .ok (.new 8, 3) := by decide +kernel
theorem d_La_law_3 : decode m_La_law.2.1 3 = .ok (.dup, 1) := by decide +kernel
theorem d_La_law_4 : decode m_La_law.2.1 4 = .ok (.invokespecial 38, 3) := by decide +kernel
theorem d_La_law_7 : decode m_La_law.2.1 7 = .ok (.astore_n 1, 1) := by decide +kernel
theorem d_La_law_8 : decode m_La_law.2.1 8 = .ok (.new 39, 3) := by decide +kernel
theorem d_La_law_11 : decode m_La_law.2.1 11 = .ok (.dup, 1) := by decide +kernel
theorem d_La_law_12 : decode m_La_law.2.1 12 = .ok (.invokespecial 41, 3) := by decide +kernel
theorem d_La_law_15 : decode m_La_law.2.1 15 = .ok (.astore_n 2, 1) := by decide +kernel
theorem d_La_law_16 : decode m_La_law.2.1 16 = .ok (.iconst 1, 1) := by decide +kernel
theorem d_La_law_17 : decode m_La_law.2.1 17 = .ok (.newarray .long, 2) := by decide +kernel
theorem d_La_law_19 : decode m_La_law.2.1 19 = .ok (.astore_n 3, 1) := by decide +kernel
theorem d_La_law_20 : decode m_La_law.2.1 20 = .ok (.iconst 0, 1) := by decide +kernel
theorem d_La_law_21 : decode m_La_law.2.1 21 = .ok (.istore 4, 2) := by decide +kernel
theorem d_La_law_23 : decode m_La_law.2.1 23 = .ok (.iload 4, 2) := by decide +kernel
theorem d_La_law_25 : decode m_La_law.2.1 25 = .ok (.aload_n 0, 1) := by decide +kernel
theorem d_La_law_26 : decode m_La_law.2.1 26 = .ok (.arraylength, 1) := by decide +kernel
theorem d_La_law_27 : decode m_La_law.2.1 27 = .ok (.iconst 3, 1) := by decide +kernel
theorem d_La_law_28 : decode m_La_law.2.1 28 = .ok (.isub, 1) := by decide +kernel
theorem d_La_law_29 : decode m_La_law.2.1 29 = .ok (.if_icmp .gt 677, 3) := by decide +kernel
theorem d_La_law_32 : decode m_La_law.2.1 32 = .ok (.aload_n 0, 1) := by decide +kernel
theorem d_La_law_33 : decode m_La_law.2.1 33 = .ok (.iload 4, 2) := by decide +kernel
theorem d_La_law_35 : decode m_La_law.2.1 35 = .ok (.iaload, 1) := by decide +kernel
theorem d_La_law_36 : decode m_La_law.2.1 36 = .ok (.bipush 31, 2) := by decide +kernel
theorem d_La_law_38 : decode m_La_law.2.1 38 = .ok (.iand, 1) := by decide +kernel
theorem d_La_law_39 : decode m_La_law.2.1 39 = .ok (.tableswitch 661 0 17 #[85, 112, 156, 192, 228, 241, 280, 305, 361, 386, 411, 436, 449, 462, 530, 555, 568, 593], 85) := by decide +kernel
theorem d_La_law_124 : decode m_La_law.2.1 124 = .ok (.aload_n 1, 1) := by decide +kernel
theorem d_La_law_125 : decode m_La_law.2.1 125 = .ok (.aload_n 0, 1) := by decide +kernel
theorem d_La_law_126 : decode m_La_law.2.1 126 = .ok (.iload 4, 2) := by decide +kernel
theorem d_La_law_128 : decode m_La_law.2.1 128 = .ok (.iconst 1, 1) := by decide +kernel
theorem d_La_law_129 : decode m_La_law.2.1 129 = .ok (.iadd, 1) := by decide +kernel
theorem d_La_law_130 : decode m_La_law.2.1 130 = .ok (.iaload, 1) := by decide +kernel
theorem d_La_law_131 : decode m_La_law.2.1 131 = .ok (.i2c, 1) := by decide +kernel
theorem d_La_law_132 : decode m_La_law.2.1 132 = .ok (.invokevirtual 42, 3) := by decide +kernel
theorem d_La_law_135 : decode m_La_law.2.1 135 = .ok (.aload_n 2, 1) := by decide +kernel
theorem d_La_law_136 : decode m_La_law.2.1 136 = .ok (.aload_n 0, 1) := by decide +kernel
theorem d_La_law_137 : decode m_La_law.2.1 137 = .ok (.iload 4, 2) := by decide +kernel
theorem d_La_law_139 : decode m_La_law.2.1 139 = .ok (.iconst 1, 1) := by decide +kernel
theorem d_La_law_140 : decode m_La_law.2.1 140 = .ok (.iadd, 1) := by decide +kernel
theorem d_La_law_141 : decode m_La_law.2.1 141 = .ok (.iaload, 1) := by decide +kernel
theorem d_La_law_142 : decode m_La_law.2.1 142 = .ok (.i2c, 1) := by decide +kernel
theorem d_La_law_143 : decode m_La_law.2.1 143 = .ok (.invokevirtual 46, 3) := by decide +kernel
theorem d_La_law_146 : decode m_La_law.2.1 146 = .ok (.if_icmp .eq 554, 3) := by decide +kernel
theorem d_La_law_149 : decode m_La_law.2.1 149 = .ok (.iconst 0, 1) := by decide +kernel
theorem d_La_law_150 : decode m_La_law.2.1 150 = .ok (.ireturn, 1) := by decide +kernel
theorem d_La_law_151 : decode m_La_law.2.1 151 = .ok (.aload_n 1, 1) := by decide +kernel
theorem d_La_law_152 : decode m_La_law.2.1 152 = .ok (.aload_n 3, 1) := by decide +kernel
theorem d_La_law_153 : decode m_La_law.2.1 153 = .ok (.invokestatic 47, 3) := by decide +kernel
theorem d_La_law_156 : decode m_La_law.2.1 156 = .ok (.istore 5, 2) := by decide +kernel
theorem d_La_law_158 : decode m_La_law.2.1 158 = .ok (.aload_n 2, 1) := by decide +kernel
theorem d_La_law_159 : decode m_La_law.2.1 159 = .ok (.invokevirtual 52, 3) := by decide +kernel
theorem d_La_law_162 : decode m_La_law.2.1 162 = .ok (.istore 6, 2) := by decide +kernel
theorem d_La_law_164 : decode m_La_law.2.1 164 = .ok (.aload_n 2, 1) := by decide +kernel
theorem d_La_law_165 : decode m_La_law.2.1 165 = .ok (.invokevirtual 53, 3) := by decide +kernel
theorem d_La_law_168 : decode m_La_law.2.1 168 = .ok (.iload 5, 2) := by decide +kernel
theorem d_La_law_170 : decode m_La_law.2.1 170 = .ok (.if_icmp .eq 5, 3) := by decide +kernel
theorem d_La_law_173 : decode m_La_law.2.1 173 = .ok (.iconst 0, 1) := by decide +kernel
theorem d_La_law_174 : decode m_La_law.2.1 174 = .ok (.ireturn, 1) := by decide +kernel
theorem d_La_law_175 : decode m_La_law.2.1 175 = .ok (.iload 5, 2) := by decide +kernel
theorem d_La_law_177 : decode m_La_law.2.1 177 = .ok (.ifCond .ne 15, 3) := by decide +kernel
theorem d_La_law_180 : decode m_La_law.2.1 180 = .ok (.aload_n 3, 1) := by decide +kernel
theorem d_La_law_181 : decode m_La_law.2.1 181 = .ok (.iconst 0, 1) := by decide +kernel
theorem d_La_law_182 : decode m_La_law.2.1 182 = .ok (.laload, 1) := by decide +kernel
theorem d_La_law_183 : decode m_La_law.2.1 183 = .ok (.iload 6, 2) := by decide +kernel
theorem d_La_law_185 : decode m_La_law.2.1 185 = .ok (.i2l, 1) := by decide +kernel
theorem d_La_law_186 : decode m_La_law.2.1 186 = .ok (.lcmp, 1) := by decide +kernel
theorem d_La_law_187 : decode m_La_law.2.1 187 = .ok (.ifCond .eq 5, 3) := by decide +kernel
theorem d_La_law_190 : decode m_La_law.2.1 190 = .ok (.iconst 0, 1) := by decide +kernel
theorem d_La_law_191 : decode m_La_law.2.1 191 = .ok (.ireturn, 1) := by decide +kernel
theorem d_La_law_192 : decode m_La_law.2.1 192 = .ok (.goto 508, 3) := by decide +kernel
theorem d_La_law_195 : decode m_La_law.2.1 195 = .ok (.aload_n 1, 1) := by decide +kernel
theorem d_La_law_196 : decode m_La_law.2.1 196 = .ok (.aload_n 0, 1) := by decide +kernel
theorem d_La_law_197 : decode m_La_law.2.1 197 = .ok (.iload 4, 2) := by decide +kernel
theorem d_La_law_199 : decode m_La_law.2.1 199 = .ok (.iconst 1, 1) := by decide +kernel
theorem d_La_law_200 : decode m_La_law.2.1 200 = .ok (.iadd, 1) := by decide +kernel
theorem d_La_law_201 : decode m_La_law.2.1 201 = .ok (.iaload, 1) := by decide +kernel
theorem d_La_law_202 : decode m_La_law.2.1 202 = .ok (.invokestatic 56, 3) := by decide +kernel
theorem d_La_law_205 : decode m_La_law.2.1 205 = .ok (.istore 5, 2) := by decide +kernel
theorem d_La_law_207 : decode m_La_law.2.1 207 = .ok (.aload_n 2, 1) := by decide +kernel
theorem d_La_law_208 : decode m_La_law.2.1 208 = .ok (.aload_n 0, 1) := by decide +kernel
theorem d_La_law_209 : decode m_La_law.2.1 209 = .ok (.iload 4, 2) := by decide +kernel
theorem d_La_law_211 : decode m_La_law.2.1 211 = .ok (.iconst 1, 1) := by decide +kernel
theorem d_La_law_212 : decode m_La_law.2.1 212 = .ok (.iadd, 1) := by decide +kernel
theorem d_La_law_213 : decode m_La_law.2.1 213 = .ok (.iaload, 1) := by decide +kernel
theorem d_La_law_214 : decode m_La_law.2.1 214 = .ok (.invokevirtual 59, 3) := by decide +kernel
theorem d_La_law_217 : decode m_La_law.2.1 217 = .ok (.aload_n 2, 1) := by decide +kernel
theorem d_La_law_218 : decode m_La_law.2.1 218 = .ok (.invokevirtual 53, 3) := by decide +kernel
theorem d_La_law_221 : decode m_La_law.2.1 221 = .ok (.iload 5, 2) := by decide +kernel
theorem d_La_law_223 : decode m_La_law.2.1 223 = .ok (.if_icmp .eq 5, 3) := by decide +kernel
theorem d_La_law_226 : decode m_La_law.2.1 226 = .ok (.iconst 0, 1) := by decide +kernel
theorem d_La_law_227 : decode m_La_law.2.1 227 = .ok (.ireturn, 1) := by decide +kernel
theorem d_La_law_228 : decode m_La_law.2.1 228 = .ok (.goto 472, 3) := by decide +kernel
theorem d_La_law_231 : decode m_La_law.2.1 231 = .ok (.aload_n 1, 1) := by decide +kernel
theorem d_La_law_232 : decode m_La_law.2.1 232 = .ok (.aload_n 0, 1) := by decide +kernel
theorem d_La_law_233 : decode m_La_law.2.1 233 = .ok (.iload 4, 2) := by decide +kernel
theorem d_La_law_235 : decode m_La_law.2.1 235 = .ok (.iconst 1, 1) := by decide +kernel
theorem d_La_law_236 : decode m_La_law.2.1 236 = .ok (.iadd, 1) := by decide +kernel
theorem d_La_law_237 : decode m_La_law.2.1 237 = .ok (.iaload, 1) := by decide +kernel
theorem d_La_law_238 : decode m_La_law.2.1 238 = .ok (.invokestatic 60, 3) := by decide +kernel
theorem d_La_law_241 : decode m_La_law.2.1 241 = .ok (.istore 5, 2) := by decide +kernel
theorem d_La_law_243 : decode m_La_law.2.1 243 = .ok (.aload_n 2, 1) := by decide +kernel
theorem d_La_law_244 : decode m_La_law.2.1 244 = .ok (.aload_n 0, 1) := by decide +kernel
theorem d_La_law_245 : decode m_La_law.2.1 245 = .ok (.iload 4, 2) := by decide +kernel
theorem d_La_law_247 : decode m_La_law.2.1 247 = .ok (.iconst 1, 1) := by decide +kernel
theorem d_La_law_248 : decode m_La_law.2.1 248 = .ok (.iadd, 1) := by decide +kernel
theorem d_La_law_249 : decode m_La_law.2.1 249 = .ok (.iaload, 1) := by decide +kernel
theorem d_La_law_250 : decode m_La_law.2.1 250 = .ok (.invokevirtual 62, 3) := by decide +kernel
theorem d_La_law_253 : decode m_La_law.2.1 253 = .ok (.aload_n 2, 1) := by decide +kernel
theorem d_La_law_254 : decode m_La_law.2.1 254 = .ok (.invokevirtual 53, 3) := by decide +kernel
theorem d_La_law_257 : decode m_La_law.2.1 257 = .ok (.iload 5, 2) := by decide +kernel
theorem d_La_law_259 : decode m_La_law.2.1 259 = .ok (.if_icmp .eq 5, 3) := by decide +kernel
theorem d_La_law_262 : decode m_La_law.2.1 262 = .ok (.iconst 0, 1) := by decide +kernel
theorem d_La_law_263 : decode m_La_law.2.1 263 = .ok (.ireturn, 1) := by decide +kernel
theorem d_La_law_264 : decode m_La_law.2.1 264 = .ok (.goto 436, 3) := by decide +kernel
theorem d_La_law_267 : decode m_La_law.2.1 267 = .ok (.aload_n 1, 1) := by decide +kernel
theorem d_La_law_268 : decode m_La_law.2.1 268 = .ok (.invokevirtual 63, 3) := by decide +kernel
theorem d_La_law_271 : decode m_La_law.2.1 271 = .ok (.aload_n 2, 1) := by decide +kernel
theorem d_La_law_272 : decode m_La_law.2.1 272 = .ok (.invokevirtual 66, 3) := by decide +kernel
theorem d_La_law_275 : decode m_La_law.2.1 275 = .ok (.if_icmp .eq 425, 3) := by decide +kernel
theorem d_La_law_278 : decode m_La_law.2.1 278 = .ok (.iconst 0, 1) := by decide +kernel
theorem d_La_law_279 : decode m_La_law.2.1 279 = .ok (.ireturn, 1) := by decide +kernel
theorem d_La_law_280 : decode m_La_law.2.1 280 = .ok (.aload_n 1, 1) := by decide +kernel
theorem d_La_law_281 : decode m_La_law.2.1 281 = .ok (.aload_n 0, 1) := by decide +kernel
theorem d_La_law_282 : decode m_La_law.2.1 282 = .ok (.iload 4, 2) := by decide +kernel
theorem d_La_law_284 : decode m_La_law.2.1 284 = .ok (.iconst 1, 1) := by decide +kernel
theorem d_La_law_285 : decode m_La_law.2.1 285 = .ok (.iadd, 1) := by decide +kernel
theorem d_La_law_286 : decode m_La_law.2.1 286 = .ok (.iaload, 1) := by decide +kernel
theorem d_La_law_287 : decode m_La_law.2.1 287 = .ok (.aload_n 0, 1) := by decide +kernel
theorem d_La_law_288 : decode m_La_law.2.1 288 = .ok (.iload 4, 2) := by decide +kernel
theorem d_La_law_290 : decode m_La_law.2.1 290 = .ok (.iconst 2, 1) := by decide +kernel
theorem d_La_law_291 : decode m_La_law.2.1 291 = .ok (.iadd, 1) := by decide +kernel
theorem d_La_law_292 : decode m_La_law.2.1 292 = .ok (.iaload, 1) := by decide +kernel
theorem d_La_law_293 : decode m_La_law.2.1 293 = .ok (.i2s, 1) := by decide +kernel
theorem d_La_law_294 : decode m_La_law.2.1 294 = .ok (.invokevirtual 67, 3) := by decide +kernel
theorem d_La_law_297 : decode m_La_law.2.1 297 = .ok (.aload_n 2, 1) := by decide +kernel
theorem d_La_law_298 : decode m_La_law.2.1 298 = .ok (.aload_n 0, 1) := by decide +kernel
theorem d_La_law_299 : decode m_La_law.2.1 299 = .ok (.iload 4, 2) := by decide +kernel
theorem d_La_law_301 : decode m_La_law.2.1 301 = .ok (.iconst 1, 1) := by decide +kernel
theorem d_La_law_302 : decode m_La_law.2.1 302 = .ok (.iadd, 1) := by decide +kernel
theorem d_La_law_303 : decode m_La_law.2.1 303 = .ok (.iaload, 1) := by decide +kernel
theorem d_La_law_304 : decode m_La_law.2.1 304 = .ok (.aload_n 0, 1) := by decide +kernel
theorem d_La_law_305 : decode m_La_law.2.1 305 = .ok (.iload 4, 2) := by decide +kernel
theorem d_La_law_307 : decode m_La_law.2.1 307 = .ok (.iconst 2, 1) := by decide +kernel
theorem d_La_law_308 : decode m_La_law.2.1 308 = .ok (.iadd, 1) := by decide +kernel
theorem d_La_law_309 : decode m_La_law.2.1 309 = .ok (.iaload, 1) := by decide +kernel
theorem d_La_law_310 : decode m_La_law.2.1 310 = .ok (.i2s, 1) := by decide +kernel
theorem d_La_law_311 : decode m_La_law.2.1 311 = .ok (.invokevirtual 71, 3) := by decide +kernel
theorem d_La_law_314 : decode m_La_law.2.1 314 = .ok (.if_icmp .eq 386, 3) := by decide +kernel
theorem d_La_law_317 : decode m_La_law.2.1 317 = .ok (.iconst 0, 1) := by decide +kernel
theorem d_La_law_318 : decode m_La_law.2.1 318 = .ok (.ireturn, 1) := by decide +kernel
theorem d_La_law_319 : decode m_La_law.2.1 319 = .ok (.aload_n 1, 1) := by decide +kernel
theorem d_La_law_320 : decode m_La_law.2.1 320 = .ok (.aload_n 0, 1) := by decide +kernel
theorem d_La_law_321 : decode m_La_law.2.1 321 = .ok (.iload 4, 2) := by decide +kernel
theorem d_La_law_323 : decode m_La_law.2.1 323 = .ok (.iconst 1, 1) := by decide +kernel
theorem d_La_law_324 : decode m_La_law.2.1 324 = .ok (.iadd, 1) := by decide +kernel
theorem d_La_law_325 : decode m_La_law.2.1 325 = .ok (.iaload, 1) := by decide +kernel
theorem d_La_law_326 : decode m_La_law.2.1 326 = .ok (.invokevirtual 72, 3) := by decide +kernel
theorem d_La_law_329 : decode m_La_law.2.1 329 = .ok (.aload_n 2, 1) := by decide +kernel
theorem d_La_law_330 : decode m_La_law.2.1 330 = .ok (.aload_n 0, 1) := by decide +kernel
theorem d_La_law_331 : decode m_La_law.2.1 331 = .ok (.iload 4, 2) := by decide +kernel
theorem d_La_law_333 : decode m_La_law.2.1 333 = .ok (.iconst 1, 1) := by decide +kernel
theorem d_La_law_334 : decode m_La_law.2.1 334 = .ok (.iadd, 1) := by decide +kernel
theorem d_La_law_335 : decode m_La_law.2.1 335 = .ok (.iaload, 1) := by decide +kernel
theorem d_La_law_336 : decode m_La_law.2.1 336 = .ok (.invokevirtual 76, 3) := by decide +kernel
theorem d_La_law_339 : decode m_La_law.2.1 339 = .ok (.if_icmp .eq 361, 3) := by decide +kernel
theorem d_La_law_342 : decode m_La_law.2.1 342 = .ok (.iconst 0, 1) := by decide +kernel
theorem d_La_law_343 : decode m_La_law.2.1 343 = .ok (.ireturn, 1) := by decide +kernel
theorem d_La_law_344 : decode m_La_law.2.1 344 = .ok (.aload_n 1, 1) := by decide +kernel
theorem d_La_law_345 : decode m_La_law.2.1 345 = .ok (.aload_n 0, 1) := by decide +kernel
theorem d_La_law_346 : decode m_La_law.2.1 346 = .ok (.iload 4, 2) := by decide +kernel
theorem d_La_law_348 : decode m_La_law.2.1 348 = .ok (.iconst 1, 1) := by decide +kernel
theorem d_La_law_349 : decode m_La_law.2.1 349 = .ok (.iadd, 1) := by decide +kernel
theorem d_La_law_350 : decode m_La_law.2.1 350 = .ok (.iaload, 1) := by decide +kernel
theorem d_La_law_351 : decode m_La_law.2.1 351 = .ok (.aload_n 3, 1) := by decide +kernel
theorem d_La_law_352 : decode m_La_law.2.1 352 = .ok (.invokestatic 77, 3) := by decide +kernel
theorem d_La_law_355 : decode m_La_law.2.1 355 = .ok (.istore 5, 2) := by decide +kernel
theorem d_La_law_357 : decode m_La_law.2.1 357 = .ok (.aload_n 2, 1) := by decide +kernel
theorem d_La_law_358 : decode m_La_law.2.1 358 = .ok (.aload_n 0, 1) := by decide +kernel
theorem d_La_law_359 : decode m_La_law.2.1 359 = .ok (.iload 4, 2) := by decide +kernel
theorem d_La_law_361 : decode m_La_law.2.1 361 = .ok (.iconst 1, 1) := by decide +kernel
theorem d_La_law_362 : decode m_La_law.2.1 362 = .ok (.iadd, 1) := by decide +kernel
theorem d_La_law_363 : decode m_La_law.2.1 363 = .ok (.iaload, 1) := by decide +kernel
theorem d_La_law_364 : decode m_La_law.2.1 364 = .ok (.invokevirtual 80, 3) := by decide +kernel
theorem d_La_law_367 : decode m_La_law.2.1 367 = .ok (.istore 6, 2) := by decide +kernel
theorem d_La_law_369 : decode m_La_law.2.1 369 = .ok (.aload_n 2, 1) := by decide +kernel
theorem d_La_law_370 : decode m_La_law.2.1 370 = .ok (.invokevirtual 53, 3) := by decide +kernel
theorem d_La_law_373 : decode m_La_law.2.1 373 = .ok (.iload 5, 2) := by decide +kernel
theorem d_La_law_375 : decode m_La_law.2.1 375 = .ok (.if_icmp .eq 5, 3) := by decide +kernel
theorem d_La_law_378 : decode m_La_law.2.1 378 = .ok (.iconst 0, 1) := by decide +kernel
theorem d_La_law_379 : decode m_La_law.2.1 379 = .ok (.ireturn, 1) := by decide +kernel
theorem d_La_law_380 : decode m_La_law.2.1 380 = .ok (.iload 5, 2) := by decide +kernel
theorem d_La_law_382 : decode m_La_law.2.1 382 = .ok (.ifCond .ne 15, 3) := by decide +kernel
theorem d_La_law_385 : decode m_La_law.2.1 385 = .ok (.aload_n 3, 1) := by decide +kernel
theorem d_La_law_386 : decode m_La_law.2.1 386 = .ok (.iconst 0, 1) := by decide +kernel
theorem d_La_law_387 : decode m_La_law.2.1 387 = .ok (.laload, 1) := by decide +kernel
theorem d_La_law_388 : decode m_La_law.2.1 388 = .ok (.iload 6, 2) := by decide +kernel
theorem d_La_law_390 : decode m_La_law.2.1 390 = .ok (.i2l, 1) := by decide +kernel
theorem d_La_law_391 : decode m_La_law.2.1 391 = .ok (.lcmp, 1) := by decide +kernel
theorem d_La_law_392 : decode m_La_law.2.1 392 = .ok (.ifCond .eq 5, 3) := by decide +kernel
theorem d_La_law_395 : decode m_La_law.2.1 395 = .ok (.iconst 0, 1) := by decide +kernel
theorem d_La_law_396 : decode m_La_law.2.1 396 = .ok (.ireturn, 1) := by decide +kernel
theorem d_La_law_397 : decode m_La_law.2.1 397 = .ok (.goto 303, 3) := by decide +kernel
theorem d_La_law_400 : decode m_La_law.2.1 400 = .ok (.aload_n 1, 1) := by decide +kernel
theorem d_La_law_401 : decode m_La_law.2.1 401 = .ok (.aload_n 0, 1) := by decide +kernel
theorem d_La_law_402 : decode m_La_law.2.1 402 = .ok (.iload 4, 2) := by decide +kernel
theorem d_La_law_404 : decode m_La_law.2.1 404 = .ok (.iconst 1, 1) := by decide +kernel
theorem d_La_law_405 : decode m_La_law.2.1 405 = .ok (.iadd, 1) := by decide +kernel
theorem d_La_law_406 : decode m_La_law.2.1 406 = .ok (.iaload, 1) := by decide +kernel
theorem d_La_law_407 : decode m_La_law.2.1 407 = .ok (.invokevirtual 81, 3) := by decide +kernel
theorem d_La_law_410 : decode m_La_law.2.1 410 = .ok (.aload_n 2, 1) := by decide +kernel
theorem d_La_law_411 : decode m_La_law.2.1 411 = .ok (.aload_n 0, 1) := by decide +kernel
theorem d_La_law_412 : decode m_La_law.2.1 412 = .ok (.iload 4, 2) := by decide +kernel
theorem d_La_law_414 : decode m_La_law.2.1 414 = .ok (.iconst 1, 1) := by decide +kernel
theorem d_La_law_415 : decode m_La_law.2.1 415 = .ok (.iadd, 1) := by decide +kernel
theorem d_La_law_416 : decode m_La_law.2.1 416 = .ok (.iaload, 1) := by decide +kernel
theorem d_La_law_417 : decode m_La_law.2.1 417 = .ok (.invokevirtual 84, 3) := by decide +kernel
theorem d_La_law_420 : decode m_La_law.2.1 420 = .ok (.if_icmp .eq 280, 3) := by decide +kernel
theorem d_La_law_423 : decode m_La_law.2.1 423 = .ok (.iconst 0, 1) := by decide +kernel
theorem d_La_law_424 : decode m_La_law.2.1 424 = .ok (.ireturn, 1) := by decide +kernel
theorem d_La_law_425 : decode m_La_law.2.1 425 = .ok (.aload_n 1, 1) := by decide +kernel
theorem d_La_law_426 : decode m_La_law.2.1 426 = .ok (.aload_n 0, 1) := by decide +kernel
theorem d_La_law_427 : decode m_La_law.2.1 427 = .ok (.iload 4, 2) := by decide +kernel
theorem d_La_law_429 : decode m_La_law.2.1 429 = .ok (.iconst 1, 1) := by decide +kernel
theorem d_La_law_430 : decode m_La_law.2.1 430 = .ok (.iadd, 1) := by decide +kernel
theorem d_La_law_431 : decode m_La_law.2.1 431 = .ok (.iaload, 1) := by decide +kernel
theorem d_La_law_432 : decode m_La_law.2.1 432 = .ok (.invokevirtual 85, 3) := by decide +kernel
theorem d_La_law_435 : decode m_La_law.2.1 435 = .ok (.aload_n 2, 1) := by decide +kernel
theorem d_La_law_436 : decode m_La_law.2.1 436 = .ok (.aload_n 0, 1) := by decide +kernel
theorem d_La_law_437 : decode m_La_law.2.1 437 = .ok (.iload 4, 2) := by decide +kernel
theorem d_La_law_439 : decode m_La_law.2.1 439 = .ok (.iconst 1, 1) := by decide +kernel
theorem d_La_law_440 : decode m_La_law.2.1 440 = .ok (.iadd, 1) := by decide +kernel
theorem d_La_law_441 : decode m_La_law.2.1 441 = .ok (.iaload, 1) := by decide +kernel
theorem d_La_law_442 : decode m_La_law.2.1 442 = .ok (.invokevirtual 88, 3) := by decide +kernel
theorem d_La_law_445 : decode m_La_law.2.1 445 = .ok (.if_icmp .eq 255, 3) := by decide +kernel
theorem d_La_law_448 : decode m_La_law.2.1 448 = .ok (.iconst 0, 1) := by decide +kernel
theorem d_La_law_449 : decode m_La_law.2.1 449 = .ok (.ireturn, 1) := by decide +kernel
theorem d_La_law_450 : decode m_La_law.2.1 450 = .ok (.aload_n 1, 1) := by decide +kernel
theorem d_La_law_451 : decode m_La_law.2.1 451 = .ok (.aload_n 0, 1) := by decide +kernel
theorem d_La_law_452 : decode m_La_law.2.1 452 = .ok (.iload 4, 2) := by decide +kernel
theorem d_La_law_454 : decode m_La_law.2.1 454 = .ok (.iconst 1, 1) := by decide +kernel
theorem d_La_law_455 : decode m_La_law.2.1 455 = .ok (.iadd, 1) := by decide +kernel
theorem d_La_law_456 : decode m_La_law.2.1 456 = .ok (.iaload, 1) := by decide +kernel
theorem d_La_law_457 : decode m_La_law.2.1 457 = .ok (.invokevirtual 89, 3) := by decide +kernel
theorem d_La_law_460 : decode m_La_law.2.1 460 = .ok (.aload_n 2, 1) := by decide +kernel
theorem d_La_law_461 : decode m_La_law.2.1 461 = .ok (.aload_n 0, 1) := by decide +kernel
theorem d_La_law_462 : decode m_La_law.2.1 462 = .ok (.iload 4, 2) := by decide +kernel
theorem d_La_law_464 : decode m_La_law.2.1 464 = .ok (.iconst 1, 1) := by decide +kernel
theorem d_La_law_465 : decode m_La_law.2.1 465 = .ok (.iadd, 1) := by decide +kernel
theorem d_La_law_466 : decode m_La_law.2.1 466 = .ok (.iaload, 1) := by decide +kernel
theorem d_La_law_467 : decode m_La_law.2.1 467 = .ok (.invokevirtual 92, 3) := by decide +kernel
theorem d_La_law_470 : decode m_La_law.2.1 470 = .ok (.if_icmp .eq 230, 3) := by decide +kernel
theorem d_La_law_473 : decode m_La_law.2.1 473 = .ok (.iconst 0, 1) := by decide +kernel
theorem d_La_law_474 : decode m_La_law.2.1 474 = .ok (.ireturn, 1) := by decide +kernel
theorem d_La_law_475 : decode m_La_law.2.1 475 = .ok (.aload_n 1, 1) := by decide +kernel
theorem d_La_law_476 : decode m_La_law.2.1 476 = .ok (.invokevirtual 93, 3) := by decide +kernel
theorem d_La_law_479 : decode m_La_law.2.1 479 = .ok (.aload_n 2, 1) := by decide +kernel
theorem d_La_law_480 : decode m_La_law.2.1 480 = .ok (.invokevirtual 96, 3) := by decide +kernel
theorem d_La_law_483 : decode m_La_law.2.1 483 = .ok (.if_icmp .eq 217, 3) := by decide +kernel
theorem d_La_law_486 : decode m_La_law.2.1 486 = .ok (.iconst 0, 1) := by decide +kernel
theorem d_La_law_487 : decode m_La_law.2.1 487 = .ok (.ireturn, 1) := by decide +kernel
theorem d_La_law_488 : decode m_La_law.2.1 488 = .ok (.aload_n 1, 1) := by decide +kernel
theorem d_La_law_489 : decode m_La_law.2.1 489 = .ok (.invokevirtual 97, 3) := by decide +kernel
theorem d_La_law_492 : decode m_La_law.2.1 492 = .ok (.aload_n 2, 1) := by decide +kernel
theorem d_La_law_493 : decode m_La_law.2.1 493 = .ok (.invokevirtual 100, 3) := by decide +kernel
theorem d_La_law_496 : decode m_La_law.2.1 496 = .ok (.if_icmp .eq 204, 3) := by decide +kernel
theorem d_La_law_499 : decode m_La_law.2.1 499 = .ok (.iconst 0, 1) := by decide +kernel
theorem d_La_law_500 : decode m_La_law.2.1 500 = .ok (.ireturn, 1) := by decide +kernel
theorem d_La_law_501 : decode m_La_law.2.1 501 = .ok (.aload_n 1, 1) := by decide +kernel
theorem d_La_law_502 : decode m_La_law.2.1 502 = .ok (.aload_n 0, 1) := by decide +kernel
theorem d_La_law_503 : decode m_La_law.2.1 503 = .ok (.iload 4, 2) := by decide +kernel
theorem d_La_law_505 : decode m_La_law.2.1 505 = .ok (.iconst 1, 1) := by decide +kernel
theorem d_La_law_506 : decode m_La_law.2.1 506 = .ok (.iadd, 1) := by decide +kernel
theorem d_La_law_507 : decode m_La_law.2.1 507 = .ok (.iaload, 1) := by decide +kernel
theorem d_La_law_508 : decode m_La_law.2.1 508 = .ok (.aload_n 0, 1) := by decide +kernel
theorem d_La_law_509 : decode m_La_law.2.1 509 = .ok (.iload 4, 2) := by decide +kernel
theorem d_La_law_511 : decode m_La_law.2.1 511 = .ok (.iconst 2, 1) := by decide +kernel
theorem d_La_law_512 : decode m_La_law.2.1 512 = .ok (.iadd, 1) := by decide +kernel
theorem d_La_law_513 : decode m_La_law.2.1 513 = .ok (.iaload, 1) := by decide +kernel
theorem d_La_law_514 : decode m_La_law.2.1 514 = .ok (.aload_n 3, 1) := by decide +kernel
theorem d_La_law_515 : decode m_La_law.2.1 515 = .ok (.invokestatic 101, 3) := by decide +kernel
theorem d_La_law_518 : decode m_La_law.2.1 518 = .ok (.istore 5, 2) := by decide +kernel
theorem d_La_law_520 : decode m_La_law.2.1 520 = .ok (.aload_n 2, 1) := by decide +kernel
theorem d_La_law_521 : decode m_La_law.2.1 521 = .ok (.aload_n 0, 1) := by decide +kernel
theorem d_La_law_522 : decode m_La_law.2.1 522 = .ok (.iload 4, 2) := by decide +kernel
theorem d_La_law_524 : decode m_La_law.2.1 524 = .ok (.iconst 1, 1) := by decide +kernel
theorem d_La_law_525 : decode m_La_law.2.1 525 = .ok (.iadd, 1) := by decide +kernel
theorem d_La_law_526 : decode m_La_law.2.1 526 = .ok (.iaload, 1) := by decide +kernel
theorem d_La_law_527 : decode m_La_law.2.1 527 = .ok (.aload_n 0, 1) := by decide +kernel
theorem d_La_law_528 : decode m_La_law.2.1 528 = .ok (.iload 4, 2) := by decide +kernel
theorem d_La_law_530 : decode m_La_law.2.1 530 = .ok (.iconst 2, 1) := by decide +kernel
theorem d_La_law_531 : decode m_La_law.2.1 531 = .ok (.iadd, 1) := by decide +kernel
theorem d_La_law_532 : decode m_La_law.2.1 532 = .ok (.iaload, 1) := by decide +kernel
theorem d_La_law_533 : decode m_La_law.2.1 533 = .ok (.invokevirtual 104, 3) := by decide +kernel
theorem d_La_law_536 : decode m_La_law.2.1 536 = .ok (.istore 6, 2) := by decide +kernel
theorem d_La_law_538 : decode m_La_law.2.1 538 = .ok (.aload_n 2, 1) := by decide +kernel
theorem d_La_law_539 : decode m_La_law.2.1 539 = .ok (.invokevirtual 53, 3) := by decide +kernel
theorem d_La_law_542 : decode m_La_law.2.1 542 = .ok (.iload 5, 2) := by decide +kernel
theorem d_La_law_544 : decode m_La_law.2.1 544 = .ok (.if_icmp .eq 5, 3) := by decide +kernel
theorem d_La_law_547 : decode m_La_law.2.1 547 = .ok (.iconst 0, 1) := by decide +kernel
theorem d_La_law_548 : decode m_La_law.2.1 548 = .ok (.ireturn, 1) := by decide +kernel
theorem d_La_law_549 : decode m_La_law.2.1 549 = .ok (.iload 5, 2) := by decide +kernel
theorem d_La_law_551 : decode m_La_law.2.1 551 = .ok (.ifCond .ne 15, 3) := by decide +kernel
theorem d_La_law_554 : decode m_La_law.2.1 554 = .ok (.aload_n 3, 1) := by decide +kernel
theorem d_La_law_555 : decode m_La_law.2.1 555 = .ok (.iconst 0, 1) := by decide +kernel
theorem d_La_law_556 : decode m_La_law.2.1 556 = .ok (.laload, 1) := by decide +kernel
theorem d_La_law_557 : decode m_La_law.2.1 557 = .ok (.iload 6, 2) := by decide +kernel
theorem d_La_law_559 : decode m_La_law.2.1 559 = .ok (.i2l, 1) := by decide +kernel
theorem d_La_law_560 : decode m_La_law.2.1 560 = .ok (.lcmp, 1) := by decide +kernel
theorem d_La_law_561 : decode m_La_law.2.1 561 = .ok (.ifCond .eq 5, 3) := by decide +kernel
theorem d_La_law_564 : decode m_La_law.2.1 564 = .ok (.iconst 0, 1) := by decide +kernel
theorem d_La_law_565 : decode m_La_law.2.1 565 = .ok (.ireturn, 1) := by decide +kernel
theorem d_La_law_566 : decode m_La_law.2.1 566 = .ok (.goto 134, 3) := by decide +kernel
theorem d_La_law_569 : decode m_La_law.2.1 569 = .ok (.aload_n 1, 1) := by decide +kernel
theorem d_La_law_570 : decode m_La_law.2.1 570 = .ok (.aload_n 0, 1) := by decide +kernel
theorem d_La_law_571 : decode m_La_law.2.1 571 = .ok (.iload 4, 2) := by decide +kernel
theorem d_La_law_573 : decode m_La_law.2.1 573 = .ok (.iconst 1, 1) := by decide +kernel
theorem d_La_law_574 : decode m_La_law.2.1 574 = .ok (.iadd, 1) := by decide +kernel
theorem d_La_law_575 : decode m_La_law.2.1 575 = .ok (.iaload, 1) := by decide +kernel
theorem d_La_law_576 : decode m_La_law.2.1 576 = .ok (.invokevirtual 105, 3) := by decide +kernel
theorem d_La_law_579 : decode m_La_law.2.1 579 = .ok (.aload_n 2, 1) := by decide +kernel
theorem d_La_law_580 : decode m_La_law.2.1 580 = .ok (.aload_n 0, 1) := by decide +kernel
theorem d_La_law_581 : decode m_La_law.2.1 581 = .ok (.iload 4, 2) := by decide +kernel
theorem d_La_law_583 : decode m_La_law.2.1 583 = .ok (.iconst 1, 1) := by decide +kernel
theorem d_La_law_584 : decode m_La_law.2.1 584 = .ok (.iadd, 1) := by decide +kernel
theorem d_La_law_585 : decode m_La_law.2.1 585 = .ok (.iaload, 1) := by decide +kernel
theorem d_La_law_586 : decode m_La_law.2.1 586 = .ok (.invokevirtual 108, 3) := by decide +kernel
theorem d_La_law_589 : decode m_La_law.2.1 589 = .ok (.if_icmp .eq 111, 3) := by decide +kernel
theorem d_La_law_592 : decode m_La_law.2.1 592 = .ok (.iconst 0, 1) := by decide +kernel
theorem d_La_law_593 : decode m_La_law.2.1 593 = .ok (.ireturn, 1) := by decide +kernel
theorem d_La_law_594 : decode m_La_law.2.1 594 = .ok (.aload_n 1, 1) := by decide +kernel
theorem d_La_law_595 : decode m_La_law.2.1 595 = .ok (.invokevirtual 109, 3) := by decide +kernel
theorem d_La_law_598 : decode m_La_law.2.1 598 = .ok (.aload_n 2, 1) := by decide +kernel
theorem d_La_law_599 : decode m_La_law.2.1 599 = .ok (.invokevirtual 112, 3) := by decide +kernel
theorem d_La_law_602 : decode m_La_law.2.1 602 = .ok (.if_icmp .eq 98, 3) := by decide +kernel
theorem d_La_law_605 : decode m_La_law.2.1 605 = .ok (.iconst 0, 1) := by decide +kernel
theorem d_La_law_606 : decode m_La_law.2.1 606 = .ok (.ireturn, 1) := by decide +kernel
theorem d_La_law_607 : decode m_La_law.2.1 607 = .ok (.aload_n 1, 1) := by decide +kernel
theorem d_La_law_608 : decode m_La_law.2.1 608 = .ok (.aload_n 0, 1) := by decide +kernel
theorem d_La_law_609 : decode m_La_law.2.1 609 = .ok (.iload 4, 2) := by decide +kernel
theorem d_La_law_611 : decode m_La_law.2.1 611 = .ok (.iconst 1, 1) := by decide +kernel
theorem d_La_law_612 : decode m_La_law.2.1 612 = .ok (.iadd, 1) := by decide +kernel
theorem d_La_law_613 : decode m_La_law.2.1 613 = .ok (.iaload, 1) := by decide +kernel
theorem d_La_law_614 : decode m_La_law.2.1 614 = .ok (.invokevirtual 113, 3) := by decide +kernel
theorem d_La_law_617 : decode m_La_law.2.1 617 = .ok (.aload_n 2, 1) := by decide +kernel
theorem d_La_law_618 : decode m_La_law.2.1 618 = .ok (.aload_n 0, 1) := by decide +kernel
theorem d_La_law_619 : decode m_La_law.2.1 619 = .ok (.iload 4, 2) := by decide +kernel
theorem d_La_law_621 : decode m_La_law.2.1 621 = .ok (.iconst 1, 1) := by decide +kernel
theorem d_La_law_622 : decode m_La_law.2.1 622 = .ok (.iadd, 1) := by decide +kernel
theorem d_La_law_623 : decode m_La_law.2.1 623 = .ok (.iaload, 1) := by decide +kernel
theorem d_La_law_624 : decode m_La_law.2.1 624 = .ok (.invokevirtual 116, 3) := by decide +kernel
theorem d_La_law_627 : decode m_La_law.2.1 627 = .ok (.if_icmp .eq 73, 3) := by decide +kernel
theorem d_La_law_630 : decode m_La_law.2.1 630 = .ok (.iconst 0, 1) := by decide +kernel
theorem d_La_law_631 : decode m_La_law.2.1 631 = .ok (.ireturn, 1) := by decide +kernel
theorem d_La_law_632 : decode m_La_law.2.1 632 = .ok (.aload_n 1, 1) := by decide +kernel
theorem d_La_law_633 : decode m_La_law.2.1 633 = .ok (.aload_n 0, 1) := by decide +kernel
theorem d_La_law_634 : decode m_La_law.2.1 634 = .ok (.iload 4, 2) := by decide +kernel
theorem d_La_law_636 : decode m_La_law.2.1 636 = .ok (.iconst 1, 1) := by decide +kernel
theorem d_La_law_637 : decode m_La_law.2.1 637 = .ok (.iadd, 1) := by decide +kernel
theorem d_La_law_638 : decode m_La_law.2.1 638 = .ok (.iaload, 1) := by decide +kernel
theorem d_La_law_639 : decode m_La_law.2.1 639 = .ok (.aload_n 0, 1) := by decide +kernel
theorem d_La_law_640 : decode m_La_law.2.1 640 = .ok (.iload 4, 2) := by decide +kernel
theorem d_La_law_642 : decode m_La_law.2.1 642 = .ok (.iconst 2, 1) := by decide +kernel
theorem d_La_law_643 : decode m_La_law.2.1 643 = .ok (.iadd, 1) := by decide +kernel
theorem d_La_law_644 : decode m_La_law.2.1 644 = .ok (.iaload, 1) := by decide +kernel
theorem d_La_law_645 : decode m_La_law.2.1 645 = .ok (.aload_n 3, 1) := by decide +kernel
theorem d_La_law_646 : decode m_La_law.2.1 646 = .ok (.invokestatic 117, 3) := by decide +kernel
theorem d_La_law_649 : decode m_La_law.2.1 649 = .ok (.istore 5, 2) := by decide +kernel
theorem d_La_law_651 : decode m_La_law.2.1 651 = .ok (.aload_n 2, 1) := by decide +kernel
theorem d_La_law_652 : decode m_La_law.2.1 652 = .ok (.aload_n 0, 1) := by decide +kernel
theorem d_La_law_653 : decode m_La_law.2.1 653 = .ok (.iload 4, 2) := by decide +kernel
theorem d_La_law_655 : decode m_La_law.2.1 655 = .ok (.iconst 1, 1) := by decide +kernel
theorem d_La_law_656 : decode m_La_law.2.1 656 = .ok (.iadd, 1) := by decide +kernel
theorem d_La_law_657 : decode m_La_law.2.1 657 = .ok (.iaload, 1) := by decide +kernel
theorem d_La_law_658 : decode m_La_law.2.1 658 = .ok (.aload_n 0, 1) := by decide +kernel
theorem d_La_law_659 : decode m_La_law.2.1 659 = .ok (.iload 4, 2) := by decide +kernel
theorem d_La_law_661 : decode m_La_law.2.1 661 = .ok (.iconst 2, 1) := by decide +kernel
theorem d_La_law_662 : decode m_La_law.2.1 662 = .ok (.iadd, 1) := by decide +kernel
theorem d_La_law_663 : decode m_La_law.2.1 663 = .ok (.iaload, 1) := by decide +kernel
theorem d_La_law_664 : decode m_La_law.2.1 664 = .ok (.invokevirtual 119, 3) := by decide +kernel
theorem d_La_law_667 : decode m_La_law.2.1 667 = .ok (.istore 6, 2) := by decide +kernel
theorem d_La_law_669 : decode m_La_law.2.1 669 = .ok (.aload_n 2, 1) := by decide +kernel
theorem d_La_law_670 : decode m_La_law.2.1 670 = .ok (.invokevirtual 53, 3) := by decide +kernel
theorem d_La_law_673 : decode m_La_law.2.1 673 = .ok (.iload 5, 2) := by decide +kernel
theorem d_La_law_675 : decode m_La_law.2.1 675 = .ok (.if_icmp .eq 5, 3) := by decide +kernel
theorem d_La_law_678 : decode m_La_law.2.1 678 = .ok (.iconst 0, 1) := by decide +kernel
theorem d_La_law_679 : decode m_La_law.2.1 679 = .ok (.ireturn, 1) := by decide +kernel
theorem d_La_law_680 : decode m_La_law.2.1 680 = .ok (.iload 5, 2) := by decide +kernel
theorem d_La_law_682 : decode m_La_law.2.1 682 = .ok (.ifCond .ne 15, 3) := by decide +kernel
theorem d_La_law_685 : decode m_La_law.2.1 685 = .ok (.aload_n 3, 1) := by decide +kernel
theorem d_La_law_686 : decode m_La_law.2.1 686 = .ok (.iconst 0, 1) := by decide +kernel
theorem d_La_law_687 : decode m_La_law.2.1 687 = .ok (.laload, 1) := by decide +kernel
theorem d_La_law_688 : decode m_La_law.2.1 688 = .ok (.iload 6, 2) := by decide +kernel
theorem d_La_law_690 : decode m_La_law.2.1 690 = .ok (.i2l, 1) := by decide +kernel
theorem d_La_law_691 : decode m_La_law.2.1 691 = .ok (.lcmp, 1) := by decide +kernel
theorem d_La_law_692 : decode m_La_law.2.1 692 = .ok (.ifCond .eq 5, 3) := by decide +kernel
theorem d_La_law_695 : decode m_La_law.2.1 695 = .ok (.iconst 0, 1) := by decide +kernel
theorem d_La_law_696 : decode m_La_law.2.1 696 = .ok (.ireturn, 1) := by decide +kernel
theorem d_La_law_697 : decode m_La_law.2.1 697 = .ok (.goto 3, 3) := by decide +kernel
theorem d_La_law_700 : decode m_La_law.2.1 700 = .ok (.iinc 4 3, 3) := by decide +kernel
theorem d_La_law_703 : decode m_La_law.2.1 703 = .ok (.goto (-680), 3) := by decide +kernel
theorem d_La_law_706 : decode m_La_law.2.1 706 = .ok (.iconst 1, 1) := by decide +kernel
theorem d_La_law_707 : decode m_La_law.2.1 707 = .ok (.ireturn, 1) := by decide +kernel
/-- what the law's locals hold, and where the script lies -/
def tb_hl (E : tb_E) (k : tb_MD) (X : Nat × Nat × (Nat → Int32)) (L : List tb_L) (s : State) (ls : Array Slot) : Prop := lv_has ls k.2.2.1 ((0, Value.ref X.1) :: tb_lv E 0 L) ∧ va_X X.1 X.2.1 X.2.2 s s.heap ∧ X.1 < s.heap.size ∧ X.1 < E.2.1.heap.size
def tb_Wl (X : Nat × Nat × (Nat → Int32)) (E : tb_E) (k : tb_MD) (d rc rs pc : Nat) (L : List tb_L) (S : List tb_V) (M : tb_M) (Q : tb_O → tb_M → Prop) : Prop :=
  ∀ (p : Program) (e : Env) (R : Room) (s : State) (m : MethodId) (args : Array Value) (below : List Frame) (meth : Method) (c : Code) (H : Heap) (locs : List Loc) (cells slots mc ms : Nat) (ls : Array Slot),
    tb_Cx E k p e s m meth c → tb_hl E k X L s ls → tb_HR E M H → va_S (tb_A E) s.heap H locs → cells + rc ≤ mc → slots + rs ≤ ms → tb_Rm R d mc ms →
    W p E.1 e R s m args below meth c H locs cells slots (tb_MQ below (tb_Qc E Q) s mc ms (tb_A E)) (F0 m pc ls (S.map (tv E)))
section LawRules
variable {X : Nat × Nat × (Nat → Int32)} {E : tb_E} {k : tb_MD} {d rc rs pc pc' : Nat} {L : List tb_L} {S : List tb_V} {M : tb_M} {Q : tb_O → tb_M → Prop}
theorem tl_d {ls : Array Slot} {n : Nat} {q : Nat × Value} {l : List (Nat × Value)} (h : lv_has ls n (q :: l)) : lv_has ls n l := ⟨h.1, h.2.1, fun z hz => h.2.2 z (List.mem_cons_of_mem _ hz)⟩
theorem tl_stored {ls : Array Slot} {nL i b : Nat} {v : Int32 ⊕ Nat} (hi : i ≠ 0) (h : lv_has ls nL ((i, tb_lt E v) :: ((0, Value.ref b) :: tb_lv E 0 L).filter (fun q => !(q.1 == i) && !(q.1 + 1 == i && q.2.category == 2)))) : lv_has ls nL ((0, Value.ref b) :: tb_lv E 0 (L.set i (some v))) := by
  have hf : (((0, Value.ref b) :: tb_lv E 0 L).filter (fun q => !(q.1 == i) && !(q.1 + 1 == i && q.2.category == 2))) = (0, Value.ref b) :: (tb_lv E 0 L).filter (fun q => !(q.1 == i) && !(q.1 + 1 == i && q.2.category == 2)) := by
    rw [List.filter_cons_of_pos]
    have h0 : (0 == i) = false := by simp; omega
    have hc : ((Value.ref b).category == 2) = false := rfl
    simp [h0, hc]
  rw [hf] at h
  have h2 : lv_has ls nL (tb_lv E 0 (L.set i (some v))) := tb_stored ⟨h.1, h.2.1, fun q hq => h.2.2 q (by
    rcases List.mem_cons.mp hq with z | z
    · exact List.mem_cons.mpr (Or.inl z)
    · exact List.mem_cons_of_mem _ (List.mem_cons_of_mem _ z))⟩
  refine ⟨h.1, h.2.1, fun q hq => ?_⟩
  rcases List.mem_cons.mp hq with z | z
  · rw [z]; exact h.2.2 _ (List.mem_cons_of_mem _ (List.mem_cons_self ..))
  · exact h2.2.2 q z
theorem tl_room {rc' rs' : Nat} (h1 : rc' ≤ rc) (h2 : rs' ≤ rs) (h : tb_Wl X E k d rc' rs' pc L S M Q) : tb_Wl X E k d rc rs pc L S M Q :=
  fun p e R s m args below meth c H locs cells slots mc ms ls C hl hH hS q1 q2 hR => h p e R s m args below meth c H locs cells slots mc ms ls C hl hH hS (by omega) (by omega) hR
theorem tl_mem {M' : tb_M} (h : ∀ H, tb_HR E M H → tb_HR E M' H) (kk : tb_Wl X E k d rc rs pc L S M' Q) : tb_Wl X E k d rc rs pc L S M Q :=
  fun p e R s m args below meth c H locs cells slots mc ms ls C hl hH hS q1 q2 hR => kk p e R s m args below meth c H locs cells slots mc ms ls C hl (h H hH) hS q1 q2 hR
theorem tl_topI {x y : Int32} (h : x = y) (kk : tb_Wl X E k d rc rs pc L (.inl y :: S) M Q) : tb_Wl X E k d rc rs pc L (.inl x :: S) M Q := h ▸ kk
theorem tl_topR {x y : Nat} (h : x = y) (kk : tb_Wl X E k d rc rs pc L (.inr (.inl y) :: S) M Q) : tb_Wl X E k d rc rs pc L (.inr (.inl x) :: S) M Q := h ▸ kk
theorem tl_nA {b : Nat} (h : b < E.2.1.heap.size) : ¬ tb_A E b := Nat.not_le.mpr h
/-- the script's length -/
theorem tl_slen (h0 : decode k.2.1 pc = .ok (.aload_n 0, 1)) (h1 : decode k.2.1 (pc + 1) = .ok (.arraylength, 1)) (hp : pc + 2 = pc') (kk : tb_Wl X E k d rc rs pc' L (.inl (nI X.2.1) :: S) M Q) : tb_Wl X E k d rc rs pc L S M Q := by
  subst hp
  intro p e R s m args below meth c H locs cells slots mc ms ls C hl hH hS q1 q2 hR
  refine lv_aload_n C.1 C.2.1 h0 rfl (hl.1.2.2 (0, Value.ref X.1) (List.mem_cons_self ..)) ?_
  exact va_slen C.1 C.2.1 hl.2.1 hl.2.2.1 (tl_nA hl.2.2.2) hS h1 (kk p e R s m args below meth c H locs cells slots mc ms ls C hl hH hS q1 q2 hR)
/-- an element of the script -/
theorem tl_scr0 {i : Nat} (h0 : decode k.2.1 pc = .ok (.aload_n 0, 1)) (h1 : decode k.2.1 (pc + 1) = .ok (.iload 4, 2)) (h4 : decode k.2.1 (pc + 3) = .ok (.iaload, 1)) (hp : pc + 4 = pc') (hL : L[4]? = some (some (.inl (nI i)))) (hi : i < X.2.1) (hX : X.2.1 < 2 ^ 31) (kk : tb_Wl X E k d rc rs pc' L (.inl (X.2.2 i) :: S) M Q) : tb_Wl X E k d rc rs pc L S M Q := by
  subst hp
  intro p e R s m args below meth c H locs cells slots mc ms ls C hl hH hS q1 q2 hR
  refine lv_aload_n C.1 C.2.1 h0 rfl (hl.1.2.2 (0, Value.ref X.1) (List.mem_cons_self ..)) ?_
  refine lv_iload C.1 C.2.1 h1 (tb_at (tl_d hl.1) hL) ?_
  refine va_sld C.1 C.2.1 hl.2.1 hl.2.2.1 (tl_nA hl.2.2.2) hS (vp_in_nI hi hX) h4 ?_
  rw [nI_clamp (by omega)]
  exact kk p e R s m args below meth c H locs cells slots mc ms ls C hl hH hS q1 q2 hR
theorem tl_scr1 {i a : Nat} {v : Int} (h0 : decode k.2.1 pc = .ok (.aload_n 0, 1)) (h1 : decode k.2.1 (pc + 1) = .ok (.iload 4, 2)) (h2 : decode k.2.1 (pc + 3) = .ok (.iconst v, 1)) (h3 : decode k.2.1 (pc + 4) = .ok (.iadd, 1)) (h4 : decode k.2.1 (pc + 5) = .ok (.iaload, 1)) (hp : pc + 6 = pc') (hL : L[4]? = some (some (.inl (nI i)))) (hv : Int32.ofInt v = nI a) (hi : i + a < X.2.1) (hX : X.2.1 < 2 ^ 31) (kk : tb_Wl X E k d rc rs pc' L (.inl (X.2.2 (i + a)) :: S) M Q) : tb_Wl X E k d rc rs pc L S M Q := by
  subst hp
  intro p e R s m args below meth c H locs cells slots mc ms ls C hl hH hS q1 q2 hR
  refine lv_aload_n C.1 C.2.1 h0 rfl (hl.1.2.2 (0, Value.ref X.1) (List.mem_cons_self ..)) ?_
  refine lv_iload C.1 C.2.1 h1 (tb_at (tl_d hl.1) hL) ?_
  refine lv_iconst C.1 C.2.1 h2 hv ?_
  refine lv_iadd C.1 C.2.1 h3 ?_
  rw [nI_add]
  refine va_sld C.1 C.2.1 hl.2.1 hl.2.2.1 (tl_nA hl.2.2.2) hS (vp_in_nI hi hX) h4 ?_
  rw [nI_clamp (by omega)]
  exact kk p e R s m args below meth c H locs cells slots mc ms ls C hl hH hS q1 q2 hR
theorem tl_iconst {n : Int} (v : Int32) (hv : Int32.ofInt n = v) (hd : decode k.2.1 pc = .ok (.iconst n, 1)) (hp : pc + 1 = pc') (kk : tb_Wl X E k d rc rs pc' L (.inl v :: S) M Q) : tb_Wl X E k d rc rs pc L (S) M Q := by
  subst hp
  intro p e R s m args below meth c H locs cells slots mc ms ls C hl hH hS h1 h2 hR
  exact lv_iconst C.1 C.2.1 hd hv (kk p e R s m args below meth c H locs cells slots mc ms ls C hl hH hS h1 h2 hR)
theorem tl_bipush {n : Int} (v : Int32) (hv : (Int8.ofInt n).toInt32 = v) (hd : decode k.2.1 pc = .ok (.bipush n, 2)) (hp : pc + 2 = pc') (kk : tb_Wl X E k d rc rs pc' L (.inl v :: S) M Q) : tb_Wl X E k d rc rs pc L (S) M Q := by
  subst hp
  intro p e R s m args below meth c H locs cells slots mc ms ls C hl hH hS h1 h2 hR
  exact lv_bipush C.1 C.2.1 hd hv (kk p e R s m args below meth c H locs cells slots mc ms ls C hl hH hS h1 h2 hR)
theorem tl_isub {x y : Int32} (hd : decode k.2.1 pc = .ok (.isub, 1)) (hp : pc + 1 = pc') (kk : tb_Wl X E k d rc rs pc' L (.inl (x - y) :: S) M Q) : tb_Wl X E k d rc rs pc L (.inl y :: .inl x :: S) M Q := by
  subst hp
  intro p e R s m args below meth c H locs cells slots mc ms ls C hl hH hS h1 h2 hR
  exact lv_isub C.1 C.2.1 hd (kk p e R s m args below meth c H locs cells slots mc ms ls C hl hH hS h1 h2 hR)
theorem tl_iand {x y : Int32} (hd : decode k.2.1 pc = .ok (.iand, 1)) (hp : pc + 1 = pc') (kk : tb_Wl X E k d rc rs pc' L (.inl (x &&& y) :: S) M Q) : tb_Wl X E k d rc rs pc L (.inl y :: .inl x :: S) M Q := by
  subst hp
  intro p e R s m args below meth c H locs cells slots mc ms ls C hl hH hS h1 h2 hR
  exact lv_iand C.1 C.2.1 hd (kk p e R s m args below meth c H locs cells slots mc ms ls C hl hH hS h1 h2 hR)
theorem tl_i2c {x : Int32} (hd : decode k.2.1 pc = .ok (.i2c, 1)) (hp : pc + 1 = pc') (kk : tb_Wl X E k d rc rs pc' L (.inl (x.toUInt32 % 65536).toInt32 :: S) M Q) : tb_Wl X E k d rc rs pc L (.inl x :: S) M Q := by
  subst hp
  intro p e R s m args below meth c H locs cells slots mc ms ls C hl hH hS h1 h2 hR
  exact lv_i2c C.1 C.2.1 hd rfl (kk p e R s m args below meth c H locs cells slots mc ms ls C hl hH hS h1 h2 hR)
theorem tl_i2s {x : Int32} (hd : decode k.2.1 pc = .ok (.i2s, 1)) (hp : pc + 1 = pc') (kk : tb_Wl X E k d rc rs pc' L (.inl x.toInt16.toInt32 :: S) M Q) : tb_Wl X E k d rc rs pc L (.inl x :: S) M Q := by
  subst hp
  intro p e R s m args below meth c H locs cells slots mc ms ls C hl hH hS h1 h2 hR
  exact lv_i2s C.1 C.2.1 hd rfl (kk p e R s m args below meth c H locs cells slots mc ms ls C hl hH hS h1 h2 hR)
theorem tl_i2l {x : Int32} (hd : decode k.2.1 pc = .ok (.i2l, 1)) (hp : pc + 1 = pc') (kk : tb_Wl X E k d rc rs pc' L (.inr (.inr x.toInt64) :: S) M Q) : tb_Wl X E k d rc rs pc L (.inl x :: S) M Q := by
  subst hp
  intro p e R s m args below meth c H locs cells slots mc ms ls C hl hH hS h1 h2 hR
  exact lv_i2l C.1 C.2.1 hd rfl (kk p e R s m args below meth c H locs cells slots mc ms ls C hl hH hS h1 h2 hR)
theorem tl_dup {r : Nat} (hd : decode k.2.1 pc = .ok (.dup, 1)) (hp : pc + 1 = pc') (kk : tb_Wl X E k d rc rs pc' L (.inr (.inl r) :: .inr (.inl r) :: S) M Q) : tb_Wl X E k d rc rs pc L (.inr (.inl r) :: S) M Q := by
  subst hp
  intro p e R s m args below meth c H locs cells slots mc ms ls C hl hH hS h1 h2 hR
  exact lv_dup (va := va_rf (tb_ro E r)) C.1 C.2.1 hd (tb_rcat E r) (kk p e R s m args below meth c H locs cells slots mc ms ls C hl hH hS h1 h2 hR)
theorem tl_if_eq {x : Int32} {off : Int} (tg : Nat) (hd : decode k.2.1 pc = .ok (.ifCond .eq off, 3)) (ht : (pc : Int) + off = (tg : Int)) (hp : pc + 3 = pc') (kt : x = 0 → tb_Wl X E k d rc rs tg L S M Q) (kf : ¬ x = 0 → tb_Wl X E k d rc rs pc' L S M Q) : tb_Wl X E k d rc rs pc L (.inl x :: S) M Q := by
  subst hp
  intro p e R s m args below meth c H locs cells slots mc ms ls C hl hH hS h1 h2 hR
  exact lv_if_eq C.1 C.2.1 hd ht (fun hc => kt hc p e R s m args below meth c H locs cells slots mc ms ls C hl hH hS h1 h2 hR) (fun hc => kf hc p e R s m args below meth c H locs cells slots mc ms ls C hl hH hS h1 h2 hR)
theorem tl_if_ne {x : Int32} {off : Int} (tg : Nat) (hd : decode k.2.1 pc = .ok (.ifCond .ne off, 3)) (ht : (pc : Int) + off = (tg : Int)) (hp : pc + 3 = pc') (kt : ¬ x = 0 → tb_Wl X E k d rc rs tg L S M Q) (kf : x = 0 → tb_Wl X E k d rc rs pc' L S M Q) : tb_Wl X E k d rc rs pc L (.inl x :: S) M Q := by
  subst hp
  intro p e R s m args below meth c H locs cells slots mc ms ls C hl hH hS h1 h2 hR
  exact lv_if_ne C.1 C.2.1 hd ht (fun hc => kt hc p e R s m args below meth c H locs cells slots mc ms ls C hl hH hS h1 h2 hR) (fun hc => kf hc p e R s m args below meth c H locs cells slots mc ms ls C hl hH hS h1 h2 hR)
theorem tl_icmp_gt {x y : Int32} {off : Int} (tg : Nat) (hd : decode k.2.1 pc = .ok (.if_icmp .gt off, 3)) (ht : (pc : Int) + off = (tg : Int)) (hp : pc + 3 = pc') (kt : y < x → tb_Wl X E k d rc rs tg L S M Q) (kf : ¬ y < x → tb_Wl X E k d rc rs pc' L S M Q) : tb_Wl X E k d rc rs pc L (.inl y :: .inl x :: S) M Q := by
  subst hp
  intro p e R s m args below meth c H locs cells slots mc ms ls C hl hH hS h1 h2 hR
  exact lv_icmp_gt C.1 C.2.1 hd ht (fun hc => kt hc p e R s m args below meth c H locs cells slots mc ms ls C hl hH hS h1 h2 hR) (fun hc => kf hc p e R s m args below meth c H locs cells slots mc ms ls C hl hH hS h1 h2 hR)
theorem tl_icmp_eq {x y : Int32} {off : Int} (tg : Nat) (hd : decode k.2.1 pc = .ok (.if_icmp .eq off, 3)) (ht : (pc : Int) + off = (tg : Int)) (hp : pc + 3 = pc') (kt : x = y → tb_Wl X E k d rc rs tg L S M Q) (kf : ¬ x = y → tb_Wl X E k d rc rs pc' L S M Q) : tb_Wl X E k d rc rs pc L (.inl y :: .inl x :: S) M Q := by
  subst hp
  intro p e R s m args below meth c H locs cells slots mc ms ls C hl hH hS h1 h2 hR
  exact lv_icmp_eq C.1 C.2.1 hd ht (fun hc => kt hc p e R s m args below meth c H locs cells slots mc ms ls C hl hH hS h1 h2 hR) (fun hc => kf hc p e R s m args below meth c H locs cells slots mc ms ls C hl hH hS h1 h2 hR)
theorem tl_goto {off : Int} (tg : Nat) (hd : decode k.2.1 pc = .ok (.goto off, 3)) (ht : (pc : Int) + off = (tg : Int)) (kk : tb_Wl X E k d rc rs tg L S M Q) : tb_Wl X E k d rc rs pc L S M Q := by
  intro p e R s m args below meth c H locs cells slots mc ms ls C hl hH hS h1 h2 hR
  exact lv_goto C.1 C.2.1 hd ht (kk p e R s m args below meth c H locs cells slots mc ms ls C hl hH hS h1 h2 hR)
theorem tl_iload0 {i : Nat} {x : Int32} (hd : decode k.2.1 pc = .ok (.iload i, 2)) (hp : pc + 2 = pc') (hx : L[i]? = some (some (.inl x))) (kk : tb_Wl X E k d rc rs pc' L (.inl x :: S) M Q) : tb_Wl X E k d rc rs pc L S M Q := by
  subst hp
  intro p e R s m args below meth c H locs cells slots mc ms ls C hl hH hS h1 h2 hR
  exact lv_iload C.1 C.2.1 hd (tb_at (tl_d hl.1) hx) (kk p e R s m args below meth c H locs cells slots mc ms ls C hl hH hS h1 h2 hR)
theorem tl_aloadn {j : Fin 4} {r : Nat} (hd : decode k.2.1 pc = .ok (.aload_n j, 1)) (hp : pc + 1 = pc') (hx : L[(j : Nat)]? = some (some (.inr r))) (kk : tb_Wl X E k d rc rs pc' L (.inr (.inl r) :: S) M Q) : tb_Wl X E k d rc rs pc L S M Q := by
  subst hp
  intro p e R s m args below meth c H locs cells slots mc ms ls C hl hH hS h1 h2 hR
  cases r with
  | zero => exact lv_aload_nN C.1 C.2.1 hd rfl (tb_at (tl_d hl.1) hx) (kk p e R s m args below meth c H locs cells slots mc ms ls C hl hH hS h1 h2 hR)
  | succ r => exact lv_aload_n C.1 C.2.1 hd rfl (tb_at (tl_d hl.1) hx) (kk p e R s m args below meth c H locs cells slots mc ms ls C hl hH hS h1 h2 hR)
theorem tl_istore0 {i : Nat} {x : Int32} {L' : List tb_L} (hd : decode k.2.1 pc = .ok (.istore i, 2)) (h0 : i ≠ 0) (hp : pc + 2 = pc') (hi : i < k.2.2.1) (hx : L.set i (some (.inl x)) = L') (kk : tb_Wl X E k d rc rs pc' L' S M Q) : tb_Wl X E k d rc rs pc L (.inl x :: S) M Q := by
  subst hp; subst hx
  intro p e R s m args below meth c H locs cells slots mc ms ls C hl hH hS h1 h2 hR
  exact lv_istore C.1 C.2.1 hd hl.1 hi rfl (fun ls' hl' => kk p e R s m args below meth c H locs cells slots mc ms ls' C ⟨tl_stored h0 hl', hl.2⟩ hH hS h1 h2 hR)
theorem tl_astoren {j : Fin 4} {r : Nat} {L' : List tb_L} (hd : decode k.2.1 pc = .ok (.astore_n j, 1)) (h0 : (j : Nat) ≠ 0) (hp : pc + 1 = pc') (hi : (j : Nat) < k.2.2.1) (hx : L.set (j : Nat) (some (.inr r)) = L') (kk : tb_Wl X E k d rc rs pc' L' S M Q) : tb_Wl X E k d rc rs pc L (.inr (.inl r) :: S) M Q := by
  subst hp; subst hx
  intro p e R s m args below meth c H locs cells slots mc ms ls C hl hH hS h1 h2 hR
  cases r with
  | zero => exact lv_astore_nN C.1 C.2.1 hd rfl hl.1 hi rfl (fun ls' hl' => kk p e R s m args below meth c H locs cells slots mc ms ls' C ⟨tl_stored h0 hl', hl.2⟩ hH hS h1 h2 hR)
  | succ r => exact lv_astore_n C.1 C.2.1 hd rfl hl.1 hi rfl (fun ls' hl' => kk p e R s m args below meth c H locs cells slots mc ms ls' C ⟨tl_stored h0 hl', hl.2⟩ hH hS h1 h2 hR)
theorem tl_iinc0 {i : Nat} {n : Int} {x : Int32} {L' : List tb_L} (v : Int32) (hd : decode k.2.1 pc = .ok (.iinc i n, 3)) (h0 : i ≠ 0) (hp : pc + 3 = pc') (hi : i < k.2.2.1) (hg : L[i]? = some (some (.inl x))) (hv : Int32.ofInt n = v) (hx : L.set i (some (.inl (x + v))) = L') (kk : tb_Wl X E k d rc rs pc' L' S M Q) : tb_Wl X E k d rc rs pc L S M Q := by
  subst hp; subst hx; subst hv
  intro p e R s m args below meth c H locs cells slots mc ms ls C hl hH hS h1 h2 hR
  obtain ⟨z, hz⟩ := List.getElem?_of_mem ((tb_lv_mem E L 0 i _).mpr ⟨i, .inl x, hg, by omega, rfl⟩)
  exact lv_iinc C.1 C.2.1 hd hl.1 (show ((0, Value.ref X.1) :: tb_lv E 0 L)[z + 1]? = _ from hz) rfl hi rfl (fun ls' hl' => kk p e R s m args below meth c H locs cells slots mc ms ls' C ⟨tl_stored h0 hl', hl.2⟩ hH hS h1 h2 hR)
theorem tl_tableIn {dflt lo hi : Int} {offs : Array Int} {len : Nat} {x : Int32} (off : Int) (tg : Nat) (hd : decode k.2.1 pc = .ok (.tableswitch dflt lo hi offs, len)) (g1 : ¬ x.toInt < lo) (g2 : ¬ hi < x.toInt) (ho : offs[(x.toInt - lo).toNat]? = some off) (ht : (pc : Int) + off = (tg : Int)) (kk : tb_Wl X E k d rc rs tg L S M Q) : tb_Wl X E k d rc rs pc L (.inl x :: S) M Q := by
  intro p e R s m args below meth c H locs cells slots mc ms ls C hl hH hS h1 h2 hR
  exact lv_tableIn C.1 C.2.1 hd g1 g2 ho ht (kk p e R s m args below meth c H locs cells slots mc ms ls C hl hH hS h1 h2 hR)
theorem tl_tableOut {dflt lo hi : Int} {offs : Array Int} {len : Nat} {x : Int32} (tg : Nat) (hd : decode k.2.1 pc = .ok (.tableswitch dflt lo hi offs, len)) (h : x.toInt < lo ∨ hi < x.toInt) (ht : (pc : Int) + dflt = (tg : Int)) (kk : tb_Wl X E k d rc rs tg L S M Q) : tb_Wl X E k d rc rs pc L (.inl x :: S) M Q := by
  intro p e R s m args below meth c H locs cells slots mc ms ls C hl hH hS h1 h2 hR
  exact lv_tableOut C.1 C.2.1 hd h ht (kk p e R s m args below meth c H locs cells slots mc ms ls C hl hH hS h1 h2 hR)
theorem tl_lcmp {x y : Int64} (hd : decode k.2.1 pc = .ok (.lcmp, 1)) (hp : pc + 1 = pc') (kk : tb_Wl X E k d rc rs pc' L (.inl (lg_cmp x y) :: S) M Q) : tb_Wl X E k d rc rs pc L (.inr (.inr y) :: .inr (.inr x) :: S) M Q := by
  subst hp
  intro p e R s m args below meth c H locs cells slots mc ms ls C hl hH hS h1 h2 hR
  exact W.lcmp C.1 C.2.1 hd (kk p e R s m args below meth c H locs cells slots mc ms ls C hl hH hS h1 h2 hR)
theorem tl_laload {o : Nat} {i : Int32} (hd : decode k.2.1 pc = .ok (.laload, 1)) (hp : pc + 1 = pc') (hKo : tb_K M o = 104) (hin : vp_in i (tb_Ln M o)) (kk : tb_Wl X E k d rc rs pc' L (.inr (.inr (tb_J M o i.toNatClampNeg)) :: S) M Q) : tb_Wl X E k d rc rs pc L (.inl i :: .inr (.inl o) :: S) M Q := by
  subst hp
  intro p e R s m args below meth c H locs cells slots mc ms ls C hl hH hS h1 h2 hR
  obtain ⟨r, rfl, hr, he⟩ := tb_cell hH (by rw [hKo]; omega)
  rw [tb_arrJ hKo] at he
  exact va_lald C.1 C.2.1 (tb_cK C) hH.1 r 4 he rfl hin hd (kk p e R s m args below meth c H locs cells slots mc ms ls C hl hH hS h1 h2 hR)
theorem tl_ireturn {x : Int32} {ty : FieldType} (hd : decode k.2.1 pc = .ok (.ireturn, 1)) (hr : k.2.2.2.1 = some ty) (hn : narrow ty (.int x) = .int x) (hQ : Q (.inl (some (.inl x))) M) : tb_Wl X E k d rc rs pc L [.inl x] M Q := by
  intro p e R s m args below meth c H locs cells slots mc ms ls C hl hH hS h1 h2 hR
  refine W.widen (k := mc) (n := ms) (by omega) (by omega) ?_
  exact tb_W_mono (fun t h => tb_MQ_of h) (W.zret (Qc := fun _ => tb_Qc E Q) (free := tb_A E) C.1 C.2.1 ((tb_cR C).trans hr) hn (fun t ht hW => ⟨⟨.inl (some (.inl x)), M, hQ, rfl, by rw [ht]; exact hH⟩, hS.F ht⟩) hS.2.2 hd (hlocks := tb_cL C))
theorem tl_callV {index ci n d' mc' ms' o : Nat} {k' : tb_MD} {A St : List tb_V} {Q' : tb_O → tb_M → Prop} (hs : tb_SV k.1.cls index ci k' n) (hd : decode k.2.1 pc = .ok (.invokevirtual index, 3)) (hp : pc + 3 = pc') (hSt : A.reverse ++ .inr (.inl o) :: S = St) (hn : A.length = n) (hS4 : S.length ≤ 4) (hKo : tb_K M o = ci + 1) (hdd : d' + 1 ≤ d) (hrc : mc' ≤ rc) (hrs : ms' ≤ rs) (hok : tb_Ok E k' d' mc' ms' (.inr (.inl o) :: A) M Q') (kr : ∀ v M', Q' (.inl v) M' → tb_Wl X E k d (rc - mc') (rs - ms') pc' L (v.toList ++ S) M' Q) (kx : ∀ x M', Q' (.inr x) M' → k.2.2.2.2 = [] ∧ Q (.inr x) M') : tb_Wl X E k d rc rs pc L St M Q := by
  subst hp; subst hSt
  intro p e R s m args below meth c H locs cells slots mc ms ls C hl hH hS h1 h2 hR
  obtain ⟨⟨b1, b2, b3, b4, b5, b6⟩, hh, w1, w2, w3, hci, hcl⟩ := hs
  have hts := tb_cw C args
  obtain ⟨r, rfl, hr, he⟩ := tb_cell hH (by rw [hKo]; omega)
  rw [tb_obj hKo hci] at he
  obtain ⟨q, hq, hqc⟩ := Option.map_eq_some_iff.mp hcl
  obtain ⟨cell, c1, c2, c3⟩ := va_recv (tb_cK C) hH.1 hq he
  rw [hqc] at c3
  have hcode := hts _ b1
  rw [tb_hcode0 hh] at hcode
  have hI := tb_InvV (l := E.1) (e := e) (R := R) (below := below) (meth := meth) (locs := locs) (cells := cells) (slots := slots) (g := F0 m pc ls ((A.reverse ++ .inr (.inl (r + 1)) :: S).map (tv E))) (argsL := A.map (tv E)) (rest := S.map (tv E)) C.1 (tb_cO C) (hts _ w1) (hts _ w2) (hts _ w3) hcode b3 c1 c2 c3 rfl (fun sig h => by rw [List.length_map, hn]; exact tb_parn b4 sig h) (tb_map_rev E A _) (by rw [C.2.1]; exact hd)
  refine tb_callW (k' := k') (A := .inr (.inl (r + 1)) :: A) (rest := S.map (tv E)) hI hok (tb_cW C) (hts _ b1) b6 (hts _ b2) hH hS (hl.1.1.trans C.2.2.1.symm) (tb_cats hS4) (by rw [C.2.1]; exact hd) hR hdd b5 (by omega) (by omega) ?_ ?_
  · intro v M' hQ H' locs' hH' hS'
    have hk := kr v M' hQ p e R s m args below meth c H' locs' (cells + mc') (slots + ms') mc ms ls C hl hH' hS' (by omega) (by omega) hR
    cases v <;> exact hk
  · intro x M' hQ H' locs' a cell hH' hS' c1 c2 c3
    obtain ⟨g1, g2⟩ := kx x M' hQ
    exact tb_leave C g1 g2 hH' hS' c1 c2 c3 (by omega) (by omega)
theorem tl_callS {index n d' mc' ms' : Nat} {k' : tb_MD} {A St : List tb_V} {Q' : tb_O → tb_M → Prop} (hs : tb_SS k.1.cls index k' n) (hd : decode k.2.1 pc = .ok (.invokestatic index, 3)) (hp : pc + 3 = pc') (hSt : A.reverse ++ S = St) (hn : A.length = n) (hS4 : S.length ≤ 4) (hdd : d' + 1 ≤ d) (hrc : mc' ≤ rc) (hrs : ms' ≤ rs) (hok : tb_Ok E k' d' mc' ms' (A) M Q') (kr : ∀ v M', Q' (.inl v) M' → tb_Wl X E k d (rc - mc') (rs - ms') pc' L (v.toList ++ S) M' Q) (kx : ∀ x M', Q' (.inr x) M' → k.2.2.2.2 = [] ∧ Q (.inr x) M') : tb_Wl X E k d rc rs pc L St M Q := by
  subst hp; subst hSt
  intro p e R s m args below meth c H locs cells slots mc ms ls C hl hH hS h1 h2 hR
  obtain ⟨⟨b1, b2, b3, b4, b5, b6⟩, w1, w2⟩ := hs
  have hts := tb_cw C args
  have hI := tb_InvS (l := E.1) (e := e) (R := R) (below := below) (meth := meth) (H := H) (locs := locs) (cells := cells) (slots := slots) (g := F0 m pc ls ((A.reverse ++ S).map (tv E))) (argsL := A.map (tv E)) (rest := S.map (tv E)) C.1 (tb_cO C) (hts _ w1) (hts _ w2) (hts _ b2) (tb_hcode C b1 args) b3 rfl (fun sig h => by rw [List.length_map, hn]; exact tb_parn b4 sig h) (tb_map_rev E A _) (by rw [C.2.1]; exact hd)
  refine tb_callW (k' := k') (A := A) (rest := S.map (tv E)) hI hok (tb_cW C) (hts _ b1) b6 (hts _ b2) hH hS (hl.1.1.trans C.2.2.1.symm) (tb_cats hS4) (by rw [C.2.1]; exact hd) hR hdd b5 (by omega) (by omega) ?_ ?_
  · intro v M' hQ H' locs' hH' hS'
    have hk := kr v M' hQ p e R s m args below meth c H' locs' (cells + mc') (slots + ms') mc ms ls C hl hH' hS' (by omega) (by omega) hR
    cases v <;> exact hk
  · intro x M' hQ H' locs' a cell hH' hS' c1 c2 c3
    obtain ⟨g1, g2⟩ := kx x M' hQ
    exact tb_leave C g1 g2 hH' hS' c1 c2 c3 (by omega) (by omega)
theorem tl_callI {index n d' mc' ms' o : Nat} {k' : tb_MD} {A St : List tb_V} {Q' : tb_O → tb_M → Prop} (hs : tb_SI k.1.cls index k' n) (hd : decode k.2.1 pc = .ok (.invokespecial index, 3)) (hp : pc + 3 = pc') (hSt : A.reverse ++ .inr (.inl o) :: S = St) (hn : A.length = n) (hS4 : S.length ≤ 4) (hKo : tb_K M o ≠ 0) (hdd : d' + 1 ≤ d) (hrc : mc' ≤ rc) (hrs : ms' ≤ rs) (hok : tb_Ok E k' d' mc' ms' (.inr (.inl o) :: A) M Q') (kr : ∀ v M', Q' (.inl v) M' → tb_Wl X E k d (rc - mc') (rs - ms') pc' L (v.toList ++ S) M' Q) (kx : ∀ x M', Q' (.inr x) M' → k.2.2.2.2 = [] ∧ Q (.inr x) M') : tb_Wl X E k d rc rs pc L St M Q := by
  subst hp; subst hSt
  intro p e R s m args below meth c H locs cells slots mc ms ls C hl hH hS h1 h2 hR
  obtain ⟨⟨b1, b2, b3, b4, b5, b6⟩, hh, hret, hnm, w1, w2⟩ := hs
  have hts := tb_cw C args
  obtain ⟨r, rfl, hr, he⟩ := tb_cell hH hKo
  have hcode := hts _ b1
  rw [tb_hcode0 hh, hret] at hcode
  have hI := tb_InvI (l := E.1) (e := e) (R := R) (below := below) (meth := meth) (H := H) (locs := locs) (cells := cells) (slots := slots) (a := E.2.1.heap.size + r) (g := F0 m pc ls ((A.reverse ++ .inr (.inl (r + 1)) :: S).map (tv E))) (argsL := A.map (tv E)) (rest := S.map (tv E)) C.1 (tb_cO C) hnm (hts _ w1) (hts _ w2) hcode b3 rfl (fun sig h => by rw [List.length_map, hn]; exact tb_parn b4 sig h) (tb_map_rev E A _) (by rw [C.2.1]; exact hd)
  refine tb_callW (k' := k') (A := .inr (.inl (r + 1)) :: A) (rest := S.map (tv E)) hI hok (tb_cW C) (hts _ b1) b6 (hts _ b2) hH hS (hl.1.1.trans C.2.2.1.symm) (tb_cats hS4) (by rw [C.2.1]; exact hd) hR hdd b5 (by omega) (by omega) ?_ ?_
  · intro v M' hQ H' locs' hH' hS'
    have hk := kr v M' hQ p e R s m args below meth c H' locs' (cells + mc') (slots + ms') mc ms ls C hl hH' hS' (by omega) (by omega) hR
    cases v <;> exact hk
  · intro x M' hQ H' locs' a cell hH' hS' c1 c2 c3
    obtain ⟨g1, g2⟩ := kx x M' hQ
    exact tb_leave C g1 g2 hH' hS' c1 c2 c3 (by omega) (by omega)
theorem tl_newO {C0 : String} {T : u_T} {N ci index : Nat} (hd : decode k.2.1 pc = .ok (.new index, 3)) (hp : pc + 3 = pc') (hc : tb_cl[ci]? = some (C0, T, N)) (hci : ci < 99) (hin : ∀ w ∈ u_ws C0 T N, tb_I1 w) (ty0 : Nat → FieldType) (hty : ∀ k, k < N → parseFieldDescriptor (T k).2.2.1 = some (ty0 k))
    (hfs : ∀ j, j < N → defaultValue (ty0 j) = vp_V (tb_fs E (fun _ => 0) (fun _ => 0) 0 ((tb_ft[ci]?).getD [])) j) (w1 : tb_I1 (Cond.classLink k.1.cls index C0)) (w2 : tb_I1 (Cond.instantiable C0 N)) (w3 : tb_I1 (Cond.initialized C0)) (hu : tb_u M = true) (hrc : 1 ≤ rc) (hrs : N ≤ rs)
    (kk : tb_Wl X E k d (rc - 1) (rs - N) pc' L (.inr (.inl (tb_n M + 1)) :: S) (tb_new M (ci + 1) 0) Q) : tb_Wl X E k d rc rs pc L S M Q := by
  subst hp
  intro p e R s m args below meth c H locs cells slots mc ms ls C hl hH hS h1 h2 hR
  have hts := tb_cw C args
  have hKn := (tb_cK C).1 ci _ hc
  have hz : H.size = E.2.1.heap.size + tb_n M := hH.2.2.2.2.2 hu
  refine W.newcK C.1 C.2.1 (tb_cO C) (hts _ w1) (hts _ w2) (hts _ w3) rfl hd (by have := hR.2.2.1; omega) (by have := hR.2.2.2; omega) hKn.2.1 hz fun H1 kC hkC e1 z1 o1 => ?_
  have hH1 : tb_HR E (tb_new M (ci + 1) 0) H1 := by
    refine tb_HR_new (by omega) hH hu (by omega) (fun q h => o1 q (by omega)) ?_
    unfold tb_en
    rw [if_pos (by omega), hz]
    exact ⟨_, hc, (u_born ty0 (fun w h => hts w (hin w h)) (fun _ h => h) hKn hkC e1 hty).to hfs⟩
  exact kk p e R s m args below meth c H1 locs (cells + 1) (slots + N) mc ms ls C hl hH1 ⟨Nat.le_trans hS.1 (by omega), fun x h3 h4 => (o1 x (by have := hS.1; omega)).trans (hS.2.1 x h3 h4), hS.2.2⟩ (by omega) (by omega) hR
theorem tl_newA {atype : ArrayType} {t N : Nat} {ty : FieldType} {n : Int32} (hd : decode k.2.1 pc = .ok (.newarray atype, 2)) (hp : pc + 2 = pc') (hty : newarray.typeOf atype = ty) (hnr : ∀ C, ty ≠ .object C) (ht : tb_ty[t]? = some ty) (hN : n.toNatClampNeg = N) (hn : ¬ n < 0) (hb : N * componentBytes ty ≤ 536870912) (w1 : tb_I1 (Cond.arrayClass ty)) (hen : ∀ cA : ClassId, E.2.2.2.2 t = cA → ∀ H1 : Heap, ∀ a : Nat, H1[a]? = some (arrV cA N (fun _ => defaultValue ty)) → va_at E.2.2.2.1 tb_cl (a, tb_en E tb_ft (100 + t) N (fun _ => 0) (fun _ => 0) (fun _ => 0)) H1) (hu : tb_u M = true) (hrc : 1 ≤ rc) (hrs : N ≤ rs)
    (kk : tb_Wl X E k d (rc - 1) (rs - N) pc' L (.inr (.inl (tb_n M + 1)) :: S) (tb_new M (100 + t) N) Q) : tb_Wl X E k d rc rs pc L (.inl n :: S) M Q := by
  subst hp; subst hty
  intro p e R s m args below meth c H locs cells slots mc ms ls C hl hH hS h1 h2 hR
  have hts := tb_cw C args
  have hz : H.size = E.2.1.heap.size + tb_n M := hH.2.2.2.2.2 hu
  refine va_newaK C.1 C.2.1 (hts _ w1) rfl hd rfl hn hN hb (by have := hR.2.2.1; omega) (by have := hR.2.2.2; omega) hz fun H1 cA e1 z1 o1 hAr hNm => ?_
  have hcA : E.2.2.2.2 t = cA := by
    have h := ((tb_cK C).2 t (E.2.2.2.2 t, newarray.typeOf atype) (by simp [tb_tys, ht])).2
    unfold va_RA at h
    cases hq : newarray.typeOf atype <;> rw [hq] at h hNm <;> first | exact absurd hq (hnr _) | exact Option.some.inj (h.symm.trans hNm)
  have hH1 : tb_HR E (tb_new M (100 + t) N) H1 := by
    refine tb_HR_new (by omega) hH hu (by omega) (fun q h => o1 q (by omega)) ?_
    rw [hz]
    exact hen cA hcA H1 _ e1
  exact kk p e R s m args below meth c H1 locs (cells + 1) (slots + N) mc ms ls C hl hH1 ⟨Nat.le_trans hS.1 (by omega), fun x h3 h4 => (o1 x (by have := hS.1; omega)).trans (hS.2.1 x h3 h4), hS.2.2⟩ (by omega) (by omega) hR
theorem tl_aload_1 {a0 : tb_L} {x : Nat} {L : List tb_L} (hd : decode k.2.1 pc = .ok (.aload_n 1, 1)) (hp : pc + 1 = pc') (kk : tb_Wl X E k d rc rs pc' (a0 :: some (.inr x) :: L) (.inr (.inl x) :: S) M Q) : tb_Wl X E k d rc rs pc (a0 :: some (.inr x) :: L) S M Q := tl_aloadn hd hp rfl kk
theorem tl_astore_1 {a0 : tb_L} {b : tb_L} {x : Nat} {L : List tb_L} (hd : decode k.2.1 pc = .ok (.astore_n 1, 1)) (hp : pc + 1 = pc') (hi : 1 < k.2.2.1) (kk : tb_Wl X E k d rc rs pc' (a0 :: some (.inr x) :: L) S M Q) : tb_Wl X E k d rc rs pc (a0 :: b :: L) (.inr (.inl x) :: S) M Q := tl_astoren hd (by decide) hp hi rfl kk
theorem tl_aload_2 {a0 a1 : tb_L} {x : Nat} {L : List tb_L} (hd : decode k.2.1 pc = .ok (.aload_n 2, 1)) (hp : pc + 1 = pc') (kk : tb_Wl X E k d rc rs pc' (a0 :: a1 :: some (.inr x) :: L) (.inr (.inl x) :: S) M Q) : tb_Wl X E k d rc rs pc (a0 :: a1 :: some (.inr x) :: L) S M Q := tl_aloadn hd hp rfl kk
theorem tl_astore_2 {a0 a1 : tb_L} {b : tb_L} {x : Nat} {L : List tb_L} (hd : decode k.2.1 pc = .ok (.astore_n 2, 1)) (hp : pc + 1 = pc') (hi : 2 < k.2.2.1) (kk : tb_Wl X E k d rc rs pc' (a0 :: a1 :: some (.inr x) :: L) S M Q) : tb_Wl X E k d rc rs pc (a0 :: a1 :: b :: L) (.inr (.inl x) :: S) M Q := tl_astoren hd (by decide) hp hi rfl kk
theorem tl_aload_3 {a0 a1 a2 : tb_L} {x : Nat} {L : List tb_L} (hd : decode k.2.1 pc = .ok (.aload_n 3, 1)) (hp : pc + 1 = pc') (kk : tb_Wl X E k d rc rs pc' (a0 :: a1 :: a2 :: some (.inr x) :: L) (.inr (.inl x) :: S) M Q) : tb_Wl X E k d rc rs pc (a0 :: a1 :: a2 :: some (.inr x) :: L) S M Q := tl_aloadn hd hp rfl kk
theorem tl_astore_3 {a0 a1 a2 : tb_L} {b : tb_L} {x : Nat} {L : List tb_L} (hd : decode k.2.1 pc = .ok (.astore_n 3, 1)) (hp : pc + 1 = pc') (hi : 3 < k.2.2.1) (kk : tb_Wl X E k d rc rs pc' (a0 :: a1 :: a2 :: some (.inr x) :: L) S M Q) : tb_Wl X E k d rc rs pc (a0 :: a1 :: a2 :: b :: L) (.inr (.inl x) :: S) M Q := tl_astoren hd (by decide) hp hi rfl kk
theorem tl_iload_4 {a0 a1 a2 a3 : tb_L} {x : Int32} {L : List tb_L} (hd : decode k.2.1 pc = .ok (.iload 4, 2)) (hp : pc + 2 = pc') (kk : tb_Wl X E k d rc rs pc' (a0 :: a1 :: a2 :: a3 :: some (.inl x) :: L) (.inl x :: S) M Q) : tb_Wl X E k d rc rs pc (a0 :: a1 :: a2 :: a3 :: some (.inl x) :: L) S M Q := tl_iload0 hd hp rfl kk
theorem tl_istore_4 {a0 a1 a2 a3 : tb_L} {b : tb_L} {x : Int32} {L : List tb_L} (hd : decode k.2.1 pc = .ok (.istore 4, 2)) (hp : pc + 2 = pc') (hi : 4 < k.2.2.1) (kk : tb_Wl X E k d rc rs pc' (a0 :: a1 :: a2 :: a3 :: some (.inl x) :: L) S M Q) : tb_Wl X E k d rc rs pc (a0 :: a1 :: a2 :: a3 :: b :: L) (.inl x :: S) M Q := tl_istore0 hd (by decide) hp hi rfl kk
theorem tl_iload_5 {a0 a1 a2 a3 a4 : tb_L} {x : Int32} {L : List tb_L} (hd : decode k.2.1 pc = .ok (.iload 5, 2)) (hp : pc + 2 = pc') (kk : tb_Wl X E k d rc rs pc' (a0 :: a1 :: a2 :: a3 :: a4 :: some (.inl x) :: L) (.inl x :: S) M Q) : tb_Wl X E k d rc rs pc (a0 :: a1 :: a2 :: a3 :: a4 :: some (.inl x) :: L) S M Q := tl_iload0 hd hp rfl kk
theorem tl_istore_5 {a0 a1 a2 a3 a4 : tb_L} {b : tb_L} {x : Int32} {L : List tb_L} (hd : decode k.2.1 pc = .ok (.istore 5, 2)) (hp : pc + 2 = pc') (hi : 5 < k.2.2.1) (kk : tb_Wl X E k d rc rs pc' (a0 :: a1 :: a2 :: a3 :: a4 :: some (.inl x) :: L) S M Q) : tb_Wl X E k d rc rs pc (a0 :: a1 :: a2 :: a3 :: a4 :: b :: L) (.inl x :: S) M Q := tl_istore0 hd (by decide) hp hi rfl kk
theorem tl_iload_6 {a0 a1 a2 a3 a4 a5 : tb_L} {x : Int32} {L : List tb_L} (hd : decode k.2.1 pc = .ok (.iload 6, 2)) (hp : pc + 2 = pc') (kk : tb_Wl X E k d rc rs pc' (a0 :: a1 :: a2 :: a3 :: a4 :: a5 :: some (.inl x) :: L) (.inl x :: S) M Q) : tb_Wl X E k d rc rs pc (a0 :: a1 :: a2 :: a3 :: a4 :: a5 :: some (.inl x) :: L) S M Q := tl_iload0 hd hp rfl kk
theorem tl_istore_6 {a0 a1 a2 a3 a4 a5 : tb_L} {b : tb_L} {x : Int32} {L : List tb_L} (hd : decode k.2.1 pc = .ok (.istore 6, 2)) (hp : pc + 2 = pc') (hi : 6 < k.2.2.1) (kk : tb_Wl X E k d rc rs pc' (a0 :: a1 :: a2 :: a3 :: a4 :: a5 :: some (.inl x) :: L) S M Q) : tb_Wl X E k d rc rs pc (a0 :: a1 :: a2 :: a3 :: a4 :: a5 :: b :: L) (.inl x :: S) M Q := tl_istore0 hd (by decide) hp hi rfl kk
theorem tl_iinc_4 {a0 a1 a2 a3 : tb_L} {n : Int} {x : Int32} {L : List tb_L} (v : Int32) (hd : decode k.2.1 pc = .ok (.iinc 4 n, 3)) (hp : pc + 3 = pc') (hi : 4 < k.2.2.1) (hv : Int32.ofInt n = v) (kk : tb_Wl X E k d rc rs pc' (a0 :: a1 :: a2 :: a3 :: some (.inl (x + v)) :: L) S M Q) : tb_Wl X E k d rc rs pc (a0 :: a1 :: a2 :: a3 :: some (.inl x) :: L) S M Q := tl_iinc0 v hd (by decide) hp hi rfl hv rfl kk
end LawRules
