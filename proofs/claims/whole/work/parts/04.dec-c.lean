theorem z_L_law_0 : decode b_L_law 0 = .ok (.new 8, 3) := by decide +kernel
theorem z_L_law_3 : decode b_L_law 3 = .ok (.dup, 1) := by decide +kernel
theorem z_L_law_4 : decode b_L_law 4 = .ok (.invokespecial 61, 3) := by decide +kernel
theorem z_L_law_7 : decode b_L_law 7 = .ok (.astore_n 1, 1) := by decide +kernel
theorem z_L_law_8 : decode b_L_law 8 = .ok (.new 62, 3) := by decide +kernel
theorem z_L_law_11 : decode b_L_law 11 = .ok (.dup, 1) := by decide +kernel
theorem z_L_law_12 : decode b_L_law 12 = .ok (.invokespecial 64, 3) := by decide +kernel
theorem z_L_law_15 : decode b_L_law 15 = .ok (.astore_n 2, 1) := by decide +kernel
theorem z_L_law_16 : decode b_L_law 16 = .ok (.iconst 1, 1) := by decide +kernel
theorem z_L_law_17 : decode b_L_law 17 = .ok (.newarray .long, 2) := by decide +kernel
theorem z_L_law_19 : decode b_L_law 19 = .ok (.astore_n 3, 1) := by decide +kernel
theorem z_L_law_20 : decode b_L_law 20 = .ok (.iconst 0, 1) := by decide +kernel
theorem z_L_law_21 : decode b_L_law 21 = .ok (.istore 4, 2) := by decide +kernel
theorem z_L_law_23 : decode b_L_law 23 = .ok (.iload 4, 2) := by decide +kernel
theorem z_L_law_25 : decode b_L_law 25 = .ok (.aload_n 0, 1) := by decide +kernel
theorem z_L_law_26 : decode b_L_law 26 = .ok (.arraylength, 1) := by decide +kernel
theorem z_L_law_27 : decode b_L_law 27 = .ok (.bipush 6, 2) := by decide +kernel
theorem z_L_law_29 : decode b_L_law 29 = .ok (.isub, 1) := by decide +kernel
theorem z_L_law_30 : decode b_L_law 30 = .ok (.if_icmp .gt 1055, 3) := by decide +kernel
theorem z_L_law_33 : decode b_L_law 33 = .ok (.aload_n 0, 1) := by decide +kernel
theorem z_L_law_34 : decode b_L_law 34 = .ok (.iload 4, 2) := by decide +kernel
theorem z_L_law_36 : decode b_L_law 36 = .ok (.iaload, 1) := by decide +kernel
theorem z_L_law_37 : decode b_L_law 37 = .ok (.bipush 15, 2) := by decide +kernel
theorem z_L_law_39 : decode b_L_law 39 = .ok (.iand, 1) := by decide +kernel
theorem z_L_law_40 : decode b_L_law 40 = .ok (.tableswitch 1039 0 12 #[68, 116, 184, 268, 359, 450, 574, 654, 766, 846, 914, 970, 1026], 68) := by decide +kernel
theorem z_L_law_108 : decode b_L_law 108 = .ok (.aload_n 1, 1) := by decide +kernel
theorem z_L_law_109 : decode b_L_law 109 = .ok (.aload_n 0, 1) := by decide +kernel
theorem z_L_law_110 : decode b_L_law 110 = .ok (.iload 4, 2) := by decide +kernel
theorem z_L_law_112 : decode b_L_law 112 = .ok (.iconst 1, 1) := by decide +kernel
theorem z_L_law_113 : decode b_L_law 113 = .ok (.iadd, 1) := by decide +kernel
theorem z_L_law_114 : decode b_L_law 114 = .ok (.iaload, 1) := by decide +kernel
theorem z_L_law_115 : decode b_L_law 115 = .ok (.aload_n 0, 1) := by decide +kernel
theorem z_L_law_116 : decode b_L_law 116 = .ok (.iload 4, 2) := by decide +kernel
theorem z_L_law_118 : decode b_L_law 118 = .ok (.iconst 2, 1) := by decide +kernel
theorem z_L_law_119 : decode b_L_law 119 = .ok (.iadd, 1) := by decide +kernel
theorem z_L_law_120 : decode b_L_law 120 = .ok (.iaload, 1) := by decide +kernel
theorem z_L_law_121 : decode b_L_law 121 = .ok (.invokestatic 65, 3) := by decide +kernel
theorem z_L_law_124 : decode b_L_law 124 = .ok (.istore 5, 2) := by decide +kernel
theorem z_L_law_126 : decode b_L_law 126 = .ok (.aload_n 2, 1) := by decide +kernel
theorem z_L_law_127 : decode b_L_law 127 = .ok (.aload_n 0, 1) := by decide +kernel
theorem z_L_law_128 : decode b_L_law 128 = .ok (.iload 4, 2) := by decide +kernel
theorem z_L_law_130 : decode b_L_law 130 = .ok (.iconst 1, 1) := by decide +kernel
theorem z_L_law_131 : decode b_L_law 131 = .ok (.iadd, 1) := by decide +kernel
theorem z_L_law_132 : decode b_L_law 132 = .ok (.iaload, 1) := by decide +kernel
theorem z_L_law_133 : decode b_L_law 133 = .ok (.aload_n 0, 1) := by decide +kernel
theorem z_L_law_134 : decode b_L_law 134 = .ok (.iload 4, 2) := by decide +kernel
theorem z_L_law_136 : decode b_L_law 136 = .ok (.iconst 2, 1) := by decide +kernel
theorem z_L_law_137 : decode b_L_law 137 = .ok (.iadd, 1) := by decide +kernel
theorem z_L_law_138 : decode b_L_law 138 = .ok (.iaload, 1) := by decide +kernel
theorem z_L_law_139 : decode b_L_law 139 = .ok (.invokevirtual 70, 3) := by decide +kernel
theorem z_L_law_142 : decode b_L_law 142 = .ok (.aload_n 2, 1) := by decide +kernel
theorem z_L_law_143 : decode b_L_law 143 = .ok (.invokevirtual 71, 3) := by decide +kernel
theorem z_L_law_146 : decode b_L_law 146 = .ok (.iload 5, 2) := by decide +kernel
theorem z_L_law_148 : decode b_L_law 148 = .ok (.if_icmp .eq 5, 3) := by decide +kernel
theorem z_L_law_151 : decode b_L_law 151 = .ok (.iconst 0, 1) := by decide +kernel
theorem z_L_law_152 : decode b_L_law 152 = .ok (.ireturn, 1) := by decide +kernel
theorem z_L_law_153 : decode b_L_law 153 = .ok (.goto 926, 3) := by decide +kernel
theorem z_L_law_156 : decode b_L_law 156 = .ok (.aload_n 1, 1) := by decide +kernel
theorem z_L_law_157 : decode b_L_law 157 = .ok (.aload_n 0, 1) := by decide +kernel
theorem z_L_law_158 : decode b_L_law 158 = .ok (.iload 4, 2) := by decide +kernel
theorem z_L_law_160 : decode b_L_law 160 = .ok (.iconst 1, 1) := by decide +kernel
theorem z_L_law_161 : decode b_L_law 161 = .ok (.iadd, 1) := by decide +kernel
theorem z_L_law_162 : decode b_L_law 162 = .ok (.iaload, 1) := by decide +kernel
theorem z_L_law_163 : decode b_L_law 163 = .ok (.aload_n 0, 1) := by decide +kernel
theorem z_L_law_164 : decode b_L_law 164 = .ok (.iload 4, 2) := by decide +kernel
theorem z_L_law_166 : decode b_L_law 166 = .ok (.iconst 2, 1) := by decide +kernel
theorem z_L_law_167 : decode b_L_law 167 = .ok (.iadd, 1) := by decide +kernel
theorem z_L_law_168 : decode b_L_law 168 = .ok (.iaload, 1) := by decide +kernel
theorem z_L_law_169 : decode b_L_law 169 = .ok (.aload_n 3, 1) := by decide +kernel
theorem z_L_law_170 : decode b_L_law 170 = .ok (.invokestatic 75, 3) := by decide +kernel
theorem z_L_law_173 : decode b_L_law 173 = .ok (.istore 5, 2) := by decide +kernel
theorem z_L_law_175 : decode b_L_law 175 = .ok (.aload_n 2, 1) := by decide +kernel
theorem z_L_law_176 : decode b_L_law 176 = .ok (.aload_n 0, 1) := by decide +kernel
theorem z_L_law_177 : decode b_L_law 177 = .ok (.iload 4, 2) := by decide +kernel
theorem z_L_law_179 : decode b_L_law 179 = .ok (.iconst 1, 1) := by decide +kernel
theorem z_L_law_180 : decode b_L_law 180 = .ok (.iadd, 1) := by decide +kernel
theorem z_L_law_181 : decode b_L_law 181 = .ok (.iaload, 1) := by decide +kernel
theorem z_L_law_182 : decode b_L_law 182 = .ok (.aload_n 0, 1) := by decide +kernel
theorem z_L_law_183 : decode b_L_law 183 = .ok (.iload 4, 2) := by decide +kernel
theorem z_L_law_185 : decode b_L_law 185 = .ok (.iconst 2, 1) := by decide +kernel
theorem z_L_law_186 : decode b_L_law 186 = .ok (.iadd, 1) := by decide +kernel
theorem z_L_law_187 : decode b_L_law 187 = .ok (.iaload, 1) := by decide +kernel
theorem z_L_law_188 : decode b_L_law 188 = .ok (.invokevirtual 78, 3) := by decide +kernel
theorem z_L_law_191 : decode b_L_law 191 = .ok (.istore 6, 2) := by decide +kernel
theorem z_L_law_193 : decode b_L_law 193 = .ok (.aload_n 2, 1) := by decide +kernel
theorem z_L_law_194 : decode b_L_law 194 = .ok (.invokevirtual 71, 3) := by decide +kernel
theorem z_L_law_197 : decode b_L_law 197 = .ok (.iload 5, 2) := by decide +kernel
theorem z_L_law_199 : decode b_L_law 199 = .ok (.if_icmp .eq 5, 3) := by decide +kernel
theorem z_L_law_202 : decode b_L_law 202 = .ok (.iconst 0, 1) := by decide +kernel
theorem z_L_law_203 : decode b_L_law 203 = .ok (.ireturn, 1) := by decide +kernel
theorem z_L_law_204 : decode b_L_law 204 = .ok (.iload 5, 2) := by decide +kernel
theorem z_L_law_206 : decode b_L_law 206 = .ok (.ifCond .ne 15, 3) := by decide +kernel
theorem z_L_law_209 : decode b_L_law 209 = .ok (.aload_n 3, 1) := by decide +kernel
theorem z_L_law_210 : decode b_L_law 210 = .ok (.iconst 0, 1) := by decide +kernel
theorem z_L_law_211 : decode b_L_law 211 = .ok (.laload, 1) := by decide +kernel
theorem z_L_law_212 : decode b_L_law 212 = .ok (.iload 6, 2) := by decide +kernel
theorem z_L_law_214 : decode b_L_law 214 = .ok (.i2l, 1) := by decide +kernel
theorem z_L_law_215 : decode b_L_law 215 = .ok (.lcmp, 1) := by decide +kernel
theorem z_L_law_216 : decode b_L_law 216 = .ok (.ifCond .eq 5, 3) := by decide +kernel
theorem z_L_law_219 : decode b_L_law 219 = .ok (.iconst 0, 1) := by decide +kernel
theorem z_L_law_220 : decode b_L_law 220 = .ok (.ireturn, 1) := by decide +kernel
theorem z_L_law_221 : decode b_L_law 221 = .ok (.goto 858, 3) := by decide +kernel
theorem z_L_law_224 : decode b_L_law 224 = .ok (.aload_n 1, 1) := by decide +kernel
theorem z_L_law_225 : decode b_L_law 225 = .ok (.aload_n 0, 1) := by decide +kernel
theorem z_L_law_226 : decode b_L_law 226 = .ok (.iload 4, 2) := by decide +kernel
theorem z_L_law_228 : decode b_L_law 228 = .ok (.iconst 1, 1) := by decide +kernel
theorem z_L_law_229 : decode b_L_law 229 = .ok (.iadd, 1) := by decide +kernel
theorem z_L_law_230 : decode b_L_law 230 = .ok (.iaload, 1) := by decide +kernel
theorem z_L_law_231 : decode b_L_law 231 = .ok (.aload_n 0, 1) := by decide +kernel
theorem z_L_law_232 : decode b_L_law 232 = .ok (.iload 4, 2) := by decide +kernel
theorem z_L_law_234 : decode b_L_law 234 = .ok (.iconst 2, 1) := by decide +kernel
theorem z_L_law_235 : decode b_L_law 235 = .ok (.iadd, 1) := by decide +kernel
theorem z_L_law_236 : decode b_L_law 236 = .ok (.iaload, 1) := by decide +kernel
theorem z_L_law_237 : decode b_L_law 237 = .ok (.aload_n 0, 1) := by decide +kernel
theorem z_L_law_238 : decode b_L_law 238 = .ok (.iload 4, 2) := by decide +kernel
theorem z_L_law_240 : decode b_L_law 240 = .ok (.iconst 3, 1) := by decide +kernel
theorem z_L_law_241 : decode b_L_law 241 = .ok (.iadd, 1) := by decide +kernel
theorem z_L_law_242 : decode b_L_law 242 = .ok (.iaload, 1) := by decide +kernel
theorem z_L_law_243 : decode b_L_law 243 = .ok (.aload_n 0, 1) := by decide +kernel
theorem z_L_law_244 : decode b_L_law 244 = .ok (.iload 4, 2) := by decide +kernel
theorem z_L_law_246 : decode b_L_law 246 = .ok (.iconst 4, 1) := by decide +kernel
theorem z_L_law_247 : decode b_L_law 247 = .ok (.iadd, 1) := by decide +kernel
theorem z_L_law_248 : decode b_L_law 248 = .ok (.iaload, 1) := by decide +kernel
theorem z_L_law_249 : decode b_L_law 249 = .ok (.aload_n 0, 1) := by decide +kernel
theorem z_L_law_250 : decode b_L_law 250 = .ok (.iload 4, 2) := by decide +kernel
theorem z_L_law_252 : decode b_L_law 252 = .ok (.iconst 5, 1) := by decide +kernel
theorem z_L_law_253 : decode b_L_law 253 = .ok (.iadd, 1) := by decide +kernel
theorem z_L_law_254 : decode b_L_law 254 = .ok (.iaload, 1) := by decide +kernel
theorem z_L_law_255 : decode b_L_law 255 = .ok (.invokestatic 79, 3) := by decide +kernel
theorem z_L_law_258 : decode b_L_law 258 = .ok (.istore 5, 2) := by decide +kernel
theorem z_L_law_260 : decode b_L_law 260 = .ok (.aload_n 2, 1) := by decide +kernel
theorem z_L_law_261 : decode b_L_law 261 = .ok (.aload_n 0, 1) := by decide +kernel
theorem z_L_law_262 : decode b_L_law 262 = .ok (.iload 4, 2) := by decide +kernel
theorem z_L_law_264 : decode b_L_law 264 = .ok (.iconst 1, 1) := by decide +kernel
theorem z_L_law_265 : decode b_L_law 265 = .ok (.iadd, 1) := by decide +kernel
theorem z_L_law_266 : decode b_L_law 266 = .ok (.iaload, 1) := by decide +kernel
theorem z_L_law_267 : decode b_L_law 267 = .ok (.aload_n 0, 1) := by decide +kernel
theorem z_L_law_268 : decode b_L_law 268 = .ok (.iload 4, 2) := by decide +kernel
theorem z_L_law_270 : decode b_L_law 270 = .ok (.iconst 2, 1) := by decide +kernel
theorem z_L_law_271 : decode b_L_law 271 = .ok (.iadd, 1) := by decide +kernel
theorem z_L_law_272 : decode b_L_law 272 = .ok (.iaload, 1) := by decide +kernel
theorem z_L_law_273 : decode b_L_law 273 = .ok (.aload_n 0, 1) := by decide +kernel
theorem z_L_law_274 : decode b_L_law 274 = .ok (.iload 4, 2) := by decide +kernel
theorem z_L_law_276 : decode b_L_law 276 = .ok (.iconst 3, 1) := by decide +kernel
theorem z_L_law_277 : decode b_L_law 277 = .ok (.iadd, 1) := by decide +kernel
theorem z_L_law_278 : decode b_L_law 278 = .ok (.iaload, 1) := by decide +kernel
theorem z_L_law_279 : decode b_L_law 279 = .ok (.aload_n 0, 1) := by decide +kernel
theorem z_L_law_280 : decode b_L_law 280 = .ok (.iload 4, 2) := by decide +kernel
theorem z_L_law_282 : decode b_L_law 282 = .ok (.iconst 4, 1) := by decide +kernel
theorem z_L_law_283 : decode b_L_law 283 = .ok (.iadd, 1) := by decide +kernel
theorem z_L_law_284 : decode b_L_law 284 = .ok (.iaload, 1) := by decide +kernel
theorem z_L_law_285 : decode b_L_law 285 = .ok (.aload_n 0, 1) := by decide +kernel
theorem z_L_law_286 : decode b_L_law 286 = .ok (.iload 4, 2) := by decide +kernel
theorem z_L_law_288 : decode b_L_law 288 = .ok (.iconst 5, 1) := by decide +kernel
theorem z_L_law_289 : decode b_L_law 289 = .ok (.iadd, 1) := by decide +kernel
theorem z_L_law_290 : decode b_L_law 290 = .ok (.iaload, 1) := by decide +kernel
theorem z_L_law_291 : decode b_L_law 291 = .ok (.invokevirtual 82, 3) := by decide +kernel
theorem z_L_law_294 : decode b_L_law 294 = .ok (.aload_n 2, 1) := by decide +kernel
theorem z_L_law_295 : decode b_L_law 295 = .ok (.invokevirtual 71, 3) := by decide +kernel
theorem z_L_law_298 : decode b_L_law 298 = .ok (.iload 5, 2) := by decide +kernel
theorem z_L_law_300 : decode b_L_law 300 = .ok (.if_icmp .eq 5, 3) := by decide +kernel
theorem z_L_law_303 : decode b_L_law 303 = .ok (.iconst 0, 1) := by decide +kernel
theorem z_L_law_304 : decode b_L_law 304 = .ok (.ireturn, 1) := by decide +kernel
theorem z_L_law_305 : decode b_L_law 305 = .ok (.goto 774, 3) := by decide +kernel
theorem z_L_law_308 : decode b_L_law 308 = .ok (.aload_n 1, 1) := by decide +kernel
theorem z_L_law_309 : decode b_L_law 309 = .ok (.aload_n 0, 1) := by decide +kernel
theorem z_L_law_310 : decode b_L_law 310 = .ok (.iload 4, 2) := by decide +kernel
theorem z_L_law_312 : decode b_L_law 312 = .ok (.iconst 1, 1) := by decide +kernel
theorem z_L_law_313 : decode b_L_law 313 = .ok (.iadd, 1) := by decide +kernel
theorem z_L_law_314 : decode b_L_law 314 = .ok (.iaload, 1) := by decide +kernel
theorem z_L_law_315 : decode b_L_law 315 = .ok (.aload_n 0, 1) := by decide +kernel
theorem z_L_law_316 : decode b_L_law 316 = .ok (.iload 4, 2) := by decide +kernel
theorem z_L_law_318 : decode b_L_law 318 = .ok (.iconst 2, 1) := by decide +kernel
theorem z_L_law_319 : decode b_L_law 319 = .ok (.iadd, 1) := by decide +kernel
theorem z_L_law_320 : decode b_L_law 320 = .ok (.iaload, 1) := by decide +kernel
theorem z_L_law_321 : decode b_L_law 321 = .ok (.aload_n 0, 1) := by decide +kernel
theorem z_L_law_322 : decode b_L_law 322 = .ok (.iload 4, 2) := by decide +kernel
theorem z_L_law_324 : decode b_L_law 324 = .ok (.iconst 3, 1) := by decide +kernel
theorem z_L_law_325 : decode b_L_law 325 = .ok (.iadd, 1) := by decide +kernel
theorem z_L_law_326 : decode b_L_law 326 = .ok (.iaload, 1) := by decide +kernel
theorem z_L_law_327 : decode b_L_law 327 = .ok (.aload_n 0, 1) := by decide +kernel
theorem z_L_law_328 : decode b_L_law 328 = .ok (.iload 4, 2) := by decide +kernel
theorem z_L_law_330 : decode b_L_law 330 = .ok (.iconst 4, 1) := by decide +kernel
theorem z_L_law_331 : decode b_L_law 331 = .ok (.iadd, 1) := by decide +kernel
theorem z_L_law_332 : decode b_L_law 332 = .ok (.iaload, 1) := by decide +kernel
theorem z_L_law_333 : decode b_L_law 333 = .ok (.aload_n 3, 1) := by decide +kernel
theorem z_L_law_334 : decode b_L_law 334 = .ok (.invokestatic 83, 3) := by decide +kernel
theorem z_L_law_337 : decode b_L_law 337 = .ok (.istore 5, 2) := by decide +kernel
theorem z_L_law_339 : decode b_L_law 339 = .ok (.aload_n 2, 1) := by decide +kernel
theorem z_L_law_340 : decode b_L_law 340 = .ok (.aload_n 0, 1) := by decide +kernel
theorem z_L_law_341 : decode b_L_law 341 = .ok (.iload 4, 2) := by decide +kernel
theorem z_L_law_343 : decode b_L_law 343 = .ok (.iconst 1, 1) := by decide +kernel
theorem z_L_law_344 : decode b_L_law 344 = .ok (.iadd, 1) := by decide +kernel
theorem z_L_law_345 : decode b_L_law 345 = .ok (.iaload, 1) := by decide +kernel
theorem z_L_law_346 : decode b_L_law 346 = .ok (.aload_n 0, 1) := by decide +kernel
theorem z_L_law_347 : decode b_L_law 347 = .ok (.iload 4, 2) := by decide +kernel
theorem z_L_law_349 : decode b_L_law 349 = .ok (.iconst 2, 1) := by decide +kernel
theorem z_L_law_350 : decode b_L_law 350 = .ok (.iadd, 1) := by decide +kernel
theorem z_L_law_351 : decode b_L_law 351 = .ok (.iaload, 1) := by decide +kernel
theorem z_L_law_352 : decode b_L_law 352 = .ok (.aload_n 0, 1) := by decide +kernel
theorem z_L_law_353 : decode b_L_law 353 = .ok (.iload 4, 2) := by decide +kernel
theorem z_L_law_355 : decode b_L_law 355 = .ok (.iconst 3, 1) := by decide +kernel
theorem z_L_law_356 : decode b_L_law 356 = .ok (.iadd, 1) := by decide +kernel
theorem z_L_law_357 : decode b_L_law 357 = .ok (.iaload, 1) := by decide +kernel
theorem z_L_law_358 : decode b_L_law 358 = .ok (.aload_n 0, 1) := by decide +kernel
theorem z_L_law_359 : decode b_L_law 359 = .ok (.iload 4, 2) := by decide +kernel
theorem z_L_law_361 : decode b_L_law 361 = .ok (.iconst 4, 1) := by decide +kernel
theorem z_L_law_362 : decode b_L_law 362 = .ok (.iadd, 1) := by decide +kernel
theorem z_L_law_363 : decode b_L_law 363 = .ok (.iaload, 1) := by decide +kernel
theorem z_L_law_364 : decode b_L_law 364 = .ok (.invokevirtual 86, 3) := by decide +kernel
theorem z_L_law_367 : decode b_L_law 367 = .ok (.lstore 6, 2) := by decide +kernel
theorem z_L_law_369 : decode b_L_law 369 = .ok (.aload_n 2, 1) := by decide +kernel
theorem z_L_law_370 : decode b_L_law 370 = .ok (.invokevirtual 71, 3) := by decide +kernel
theorem z_L_law_373 : decode b_L_law 373 = .ok (.iload 5, 2) := by decide +kernel
theorem z_L_law_375 : decode b_L_law 375 = .ok (.if_icmp .eq 5, 3) := by decide +kernel
theorem z_L_law_378 : decode b_L_law 378 = .ok (.iconst 0, 1) := by decide +kernel
theorem z_L_law_379 : decode b_L_law 379 = .ok (.ireturn, 1) := by decide +kernel
theorem z_L_law_380 : decode b_L_law 380 = .ok (.iload 5, 2) := by decide +kernel
theorem z_L_law_382 : decode b_L_law 382 = .ok (.ifCond .ne 14, 3) := by decide +kernel
theorem z_L_law_385 : decode b_L_law 385 = .ok (.aload_n 3, 1) := by decide +kernel
theorem z_L_law_386 : decode b_L_law 386 = .ok (.iconst 0, 1) := by decide +kernel
theorem z_L_law_387 : decode b_L_law 387 = .ok (.laload, 1) := by decide +kernel
theorem z_L_law_388 : decode b_L_law 388 = .ok (.lload 6, 2) := by decide +kernel
theorem z_L_law_390 : decode b_L_law 390 = .ok (.lcmp, 1) := by decide +kernel
theorem z_L_law_391 : decode b_L_law 391 = .ok (.ifCond .eq 5, 3) := by decide +kernel
theorem z_L_law_394 : decode b_L_law 394 = .ok (.iconst 0, 1) := by decide +kernel
theorem z_L_law_395 : decode b_L_law 395 = .ok (.ireturn, 1) := by decide +kernel
theorem z_L_law_396 : decode b_L_law 396 = .ok (.goto 683, 3) := by decide +kernel
theorem z_L_law_399 : decode b_L_law 399 = .ok (.aload_n 1, 1) := by decide +kernel
theorem z_L_law_400 : decode b_L_law 400 = .ok (.aload_n 0, 1) := by decide +kernel
theorem z_L_law_401 : decode b_L_law 401 = .ok (.iload 4, 2) := by decide +kernel
theorem z_L_law_403 : decode b_L_law 403 = .ok (.iconst 1, 1) := by decide +kernel
theorem z_L_law_404 : decode b_L_law 404 = .ok (.iadd, 1) := by decide +kernel
theorem z_L_law_405 : decode b_L_law 405 = .ok (.iaload, 1) := by decide +kernel
theorem z_L_law_406 : decode b_L_law 406 = .ok (.aload_n 0, 1) := by decide +kernel
theorem z_L_law_407 : decode b_L_law 407 = .ok (.iload 4, 2) := by decide +kernel
theorem z_L_law_409 : decode b_L_law 409 = .ok (.iconst 2, 1) := by decide +kernel
theorem z_L_law_410 : decode b_L_law 410 = .ok (.iadd, 1) := by decide +kernel
theorem z_L_law_411 : decode b_L_law 411 = .ok (.iaload, 1) := by decide +kernel
theorem z_L_law_412 : decode b_L_law 412 = .ok (.aload_n 0, 1) := by decide +kernel
theorem z_L_law_413 : decode b_L_law 413 = .ok (.iload 4, 2) := by decide +kernel
theorem z_L_law_415 : decode b_L_law 415 = .ok (.iconst 3, 1) := by decide +kernel
theorem z_L_law_416 : decode b_L_law 416 = .ok (.iadd, 1) := by decide +kernel
theorem z_L_law_417 : decode b_L_law 417 = .ok (.iaload, 1) := by decide +kernel
theorem z_L_law_418 : decode b_L_law 418 = .ok (.aload_n 0, 1) := by decide +kernel
theorem z_L_law_419 : decode b_L_law 419 = .ok (.iload 4, 2) := by decide +kernel
theorem z_L_law_421 : decode b_L_law 421 = .ok (.iconst 4, 1) := by decide +kernel
theorem z_L_law_422 : decode b_L_law 422 = .ok (.iadd, 1) := by decide +kernel
theorem z_L_law_423 : decode b_L_law 423 = .ok (.iaload, 1) := by decide +kernel
theorem z_L_law_424 : decode b_L_law 424 = .ok (.aload_n 3, 1) := by decide +kernel
theorem z_L_law_425 : decode b_L_law 425 = .ok (.invokestatic 87, 3) := by decide +kernel
theorem z_L_law_428 : decode b_L_law 428 = .ok (.istore 5, 2) := by decide +kernel
theorem z_L_law_430 : decode b_L_law 430 = .ok (.aload_n 2, 1) := by decide +kernel
theorem z_L_law_431 : decode b_L_law 431 = .ok (.aload_n 0, 1) := by decide +kernel
theorem z_L_law_432 : decode b_L_law 432 = .ok (.iload 4, 2) := by decide +kernel
theorem z_L_law_434 : decode b_L_law 434 = .ok (.iconst 1, 1) := by decide +kernel
theorem z_L_law_435 : decode b_L_law 435 = .ok (.iadd, 1) := by decide +kernel
theorem z_L_law_436 : decode b_L_law 436 = .ok (.iaload, 1) := by decide +kernel
theorem z_L_law_437 : decode b_L_law 437 = .ok (.aload_n 0, 1) := by decide +kernel
theorem z_L_law_438 : decode b_L_law 438 = .ok (.iload 4, 2) := by decide +kernel
theorem z_L_law_440 : decode b_L_law 440 = .ok (.iconst 2, 1) := by decide +kernel
theorem z_L_law_441 : decode b_L_law 441 = .ok (.iadd, 1) := by decide +kernel
theorem z_L_law_442 : decode b_L_law 442 = .ok (.iaload, 1) := by decide +kernel
theorem z_L_law_443 : decode b_L_law 443 = .ok (.aload_n 0, 1) := by decide +kernel
theorem z_L_law_444 : decode b_L_law 444 = .ok (.iload 4, 2) := by decide +kernel
theorem z_L_law_446 : decode b_L_law 446 = .ok (.iconst 3, 1) := by decide +kernel
theorem z_L_law_447 : decode b_L_law 447 = .ok (.iadd, 1) := by decide +kernel
theorem z_L_law_448 : decode b_L_law 448 = .ok (.iaload, 1) := by decide +kernel
theorem z_L_law_449 : decode b_L_law 449 = .ok (.aload_n 0, 1) := by decide +kernel
theorem z_L_law_450 : decode b_L_law 450 = .ok (.iload 4, 2) := by decide +kernel
theorem z_L_law_452 : decode b_L_law 452 = .ok (.iconst 4, 1) := by decide +kernel
theorem z_L_law_453 : decode b_L_law 453 = .ok (.iadd, 1) := by decide +kernel
theorem z_L_law_454 : decode b_L_law 454 = .ok (.iaload, 1) := by decide +kernel
theorem z_L_law_455 : decode b_L_law 455 = .ok (.invokevirtual 89, 3) := by decide +kernel
theorem z_L_law_458 : decode b_L_law 458 = .ok (.lstore 6, 2) := by decide +kernel
theorem z_L_law_460 : decode b_L_law 460 = .ok (.aload_n 2, 1) := by decide +kernel
theorem z_L_law_461 : decode b_L_law 461 = .ok (.invokevirtual 71, 3) := by decide +kernel
theorem z_L_law_464 : decode b_L_law 464 = .ok (.iload 5, 2) := by decide +kernel
theorem z_L_law_466 : decode b_L_law 466 = .ok (.if_icmp .eq 5, 3) := by decide +kernel
theorem z_L_law_469 : decode b_L_law 469 = .ok (.iconst 0, 1) := by decide +kernel
theorem z_L_law_470 : decode b_L_law 470 = .ok (.ireturn, 1) := by decide +kernel
theorem z_L_law_471 : decode b_L_law 471 = .ok (.iload 5, 2) := by decide +kernel
theorem z_L_law_473 : decode b_L_law 473 = .ok (.ifCond .ne 14, 3) := by decide +kernel
theorem z_L_law_476 : decode b_L_law 476 = .ok (.aload_n 3, 1) := by decide +kernel
theorem z_L_law_477 : decode b_L_law 477 = .ok (.iconst 0, 1) := by decide +kernel
theorem z_L_law_478 : decode b_L_law 478 = .ok (.laload, 1) := by decide +kernel
theorem z_L_law_479 : decode b_L_law 479 = .ok (.lload 6, 2) := by decide +kernel
theorem z_L_law_481 : decode b_L_law 481 = .ok (.lcmp, 1) := by decide +kernel
theorem z_L_law_482 : decode b_L_law 482 = .ok (.ifCond .eq 5, 3) := by decide +kernel
theorem z_L_law_485 : decode b_L_law 485 = .ok (.iconst 0, 1) := by decide +kernel
theorem z_L_law_486 : decode b_L_law 486 = .ok (.ireturn, 1) := by decide +kernel
theorem z_L_law_487 : decode b_L_law 487 = .ok (.goto 592, 3) := by decide +kernel
theorem z_L_law_490 : decode b_L_law 490 = .ok (.aload_n 1, 1) := by decide +kernel
theorem z_L_law_491 : decode b_L_law 491 = .ok (.aload_n 0, 1) := by decide +kernel
theorem z_L_law_492 : decode b_L_law 492 = .ok (.iload 4, 2) := by decide +kernel
theorem z_L_law_494 : decode b_L_law 494 = .ok (.iconst 1, 1) := by decide +kernel
theorem z_L_law_495 : decode b_L_law 495 = .ok (.iadd, 1) := by decide +kernel
theorem z_L_law_496 : decode b_L_law 496 = .ok (.iaload, 1) := by decide +kernel
theorem z_L_law_497 : decode b_L_law 497 = .ok (.aload_n 0, 1) := by decide +kernel
theorem z_L_law_498 : decode b_L_law 498 = .ok (.iload 4, 2) := by decide +kernel
theorem z_L_law_500 : decode b_L_law 500 = .ok (.iconst 2, 1) := by decide +kernel
theorem z_L_law_501 : decode b_L_law 501 = .ok (.iadd, 1) := by decide +kernel
theorem z_L_law_502 : decode b_L_law 502 = .ok (.iaload, 1) := by decide +kernel
theorem z_L_law_503 : decode b_L_law 503 = .ok (.aload_n 0, 1) := by decide +kernel
theorem z_L_law_504 : decode b_L_law 504 = .ok (.iload 4, 2) := by decide +kernel
theorem z_L_law_506 : decode b_L_law 506 = .ok (.iconst 3, 1) := by decide +kernel
theorem z_L_law_507 : decode b_L_law 507 = .ok (.iadd, 1) := by decide +kernel
theorem z_L_law_508 : decode b_L_law 508 = .ok (.iaload, 1) := by decide +kernel
theorem z_L_law_509 : decode b_L_law 509 = .ok (.i2l, 1) := by decide +kernel
theorem z_L_law_510 : decode b_L_law 510 = .ok (.bipush 32, 2) := by decide +kernel
theorem z_L_law_512 : decode b_L_law 512 = .ok (.lshl, 1) := by decide +kernel
theorem z_L_law_513 : decode b_L_law 513 = .ok (.aload_n 0, 1) := by decide +kernel
theorem z_L_law_514 : decode b_L_law 514 = .ok (.iload 4, 2) := by decide +kernel
theorem z_L_law_516 : decode b_L_law 516 = .ok (.iconst 4, 1) := by decide +kernel
theorem z_L_law_517 : decode b_L_law 517 = .ok (.iadd, 1) := by decide +kernel
theorem z_L_law_518 : decode b_L_law 518 = .ok (.iaload, 1) := by decide +kernel
theorem z_L_law_519 : decode b_L_law 519 = .ok (.i2l, 1) := by decide +kernel
theorem z_L_law_520 : decode b_L_law 520 = .ok (.ldc2_w 90, 3) := by decide +kernel
theorem z_L_law_523 : decode b_L_law 523 = .ok (.land, 1) := by decide +kernel
theorem z_L_law_524 : decode b_L_law 524 = .ok (.lor, 1) := by decide +kernel
theorem z_L_law_525 : decode b_L_law 525 = .ok (.aload_n 0, 1) := by decide +kernel
theorem z_L_law_526 : decode b_L_law 526 = .ok (.iload 4, 2) := by decide +kernel
theorem z_L_law_528 : decode b_L_law 528 = .ok (.iconst 5, 1) := by decide +kernel
theorem z_L_law_529 : decode b_L_law 529 = .ok (.iadd, 1) := by decide +kernel
theorem z_L_law_530 : decode b_L_law 530 = .ok (.iaload, 1) := by decide +kernel
theorem z_L_law_531 : decode b_L_law 531 = .ok (.aload_n 3, 1) := by decide +kernel
theorem z_L_law_532 : decode b_L_law 532 = .ok (.invokestatic 92, 3) := by decide +kernel
theorem z_L_law_535 : decode b_L_law 535 = .ok (.istore 5, 2) := by decide +kernel
theorem z_L_law_537 : decode b_L_law 537 = .ok (.aload_n 2, 1) := by decide +kernel
theorem z_L_law_538 : decode b_L_law 538 = .ok (.aload_n 0, 1) := by decide +kernel
theorem z_L_law_539 : decode b_L_law 539 = .ok (.iload 4, 2) := by decide +kernel
theorem z_L_law_541 : decode b_L_law 541 = .ok (.iconst 1, 1) := by decide +kernel
theorem z_L_law_542 : decode b_L_law 542 = .ok (.iadd, 1) := by decide +kernel
theorem z_L_law_543 : decode b_L_law 543 = .ok (.iaload, 1) := by decide +kernel
theorem z_L_law_544 : decode b_L_law 544 = .ok (.aload_n 0, 1) := by decide +kernel
theorem z_L_law_545 : decode b_L_law 545 = .ok (.iload 4, 2) := by decide +kernel
theorem z_L_law_547 : decode b_L_law 547 = .ok (.iconst 2, 1) := by decide +kernel
theorem z_L_law_548 : decode b_L_law 548 = .ok (.iadd, 1) := by decide +kernel
theorem z_L_law_549 : decode b_L_law 549 = .ok (.iaload, 1) := by decide +kernel
theorem z_L_law_550 : decode b_L_law 550 = .ok (.aload_n 0, 1) := by decide +kernel
theorem z_L_law_551 : decode b_L_law 551 = .ok (.iload 4, 2) := by decide +kernel
theorem z_L_law_553 : decode b_L_law 553 = .ok (.iconst 3, 1) := by decide +kernel
theorem z_L_law_554 : decode b_L_law 554 = .ok (.iadd, 1) := by decide +kernel
theorem z_L_law_555 : decode b_L_law 555 = .ok (.iaload, 1) := by decide +kernel
theorem z_L_law_556 : decode b_L_law 556 = .ok (.i2l, 1) := by decide +kernel
theorem z_L_law_557 : decode b_L_law 557 = .ok (.bipush 32, 2) := by decide +kernel
theorem z_L_law_559 : decode b_L_law 559 = .ok (.lshl, 1) := by decide +kernel
theorem z_L_law_560 : decode b_L_law 560 = .ok (.aload_n 0, 1) := by decide +kernel
theorem z_L_law_561 : decode b_L_law 561 = .ok (.iload 4, 2) := by decide +kernel
theorem z_L_law_563 : decode b_L_law 563 = .ok (.iconst 4, 1) := by decide +kernel
theorem z_L_law_564 : decode b_L_law 564 = .ok (.iadd, 1) := by decide +kernel
theorem z_L_law_565 : decode b_L_law 565 = .ok (.iaload, 1) := by decide +kernel
theorem z_L_law_566 : decode b_L_law 566 = .ok (.i2l, 1) := by decide +kernel
theorem z_L_law_567 : decode b_L_law 567 = .ok (.ldc2_w 90, 3) := by decide +kernel
theorem z_L_law_570 : decode b_L_law 570 = .ok (.land, 1) := by decide +kernel
theorem z_L_law_571 : decode b_L_law 571 = .ok (.lor, 1) := by decide +kernel
theorem z_L_law_572 : decode b_L_law 572 = .ok (.aload_n 0, 1) := by decide +kernel
theorem z_L_law_573 : decode b_L_law 573 = .ok (.iload 4, 2) := by decide +kernel
theorem z_L_law_575 : decode b_L_law 575 = .ok (.iconst 5, 1) := by decide +kernel
theorem z_L_law_576 : decode b_L_law 576 = .ok (.iadd, 1) := by decide +kernel
theorem z_L_law_577 : decode b_L_law 577 = .ok (.iaload, 1) := by decide +kernel
theorem z_L_law_578 : decode b_L_law 578 = .ok (.invokevirtual 95, 3) := by decide +kernel
theorem z_L_law_581 : decode b_L_law 581 = .ok (.istore 6, 2) := by decide +kernel
theorem z_L_law_583 : decode b_L_law 583 = .ok (.aload_n 2, 1) := by decide +kernel
theorem z_L_law_584 : decode b_L_law 584 = .ok (.invokevirtual 71, 3) := by decide +kernel
theorem z_L_law_587 : decode b_L_law 587 = .ok (.iload 5, 2) := by decide +kernel
theorem z_L_law_589 : decode b_L_law 589 = .ok (.if_icmp .eq 5, 3) := by decide +kernel
theorem z_L_law_592 : decode b_L_law 592 = .ok (.iconst 0, 1) := by decide +kernel
theorem z_L_law_593 : decode b_L_law 593 = .ok (.ireturn, 1) := by decide +kernel
theorem z_L_law_594 : decode b_L_law 594 = .ok (.iload 5, 2) := by decide +kernel
theorem z_L_law_596 : decode b_L_law 596 = .ok (.ifCond .ne 15, 3) := by decide +kernel
theorem z_L_law_599 : decode b_L_law 599 = .ok (.aload_n 3, 1) := by decide +kernel
theorem z_L_law_600 : decode b_L_law 600 = .ok (.iconst 0, 1) := by decide +kernel
theorem z_L_law_601 : decode b_L_law 601 = .ok (.laload, 1) := by decide +kernel
theorem z_L_law_602 : decode b_L_law 602 = .ok (.iload 6, 2) := by decide +kernel
theorem z_L_law_604 : decode b_L_law 604 = .ok (.i2l, 1) := by decide +kernel
theorem z_L_law_605 : decode b_L_law 605 = .ok (.lcmp, 1) := by decide +kernel
theorem z_L_law_606 : decode b_L_law 606 = .ok (.ifCond .eq 5, 3) := by decide +kernel
theorem z_L_law_609 : decode b_L_law 609 = .ok (.iconst 0, 1) := by decide +kernel
theorem z_L_law_610 : decode b_L_law 610 = .ok (.ireturn, 1) := by decide +kernel
theorem z_L_law_611 : decode b_L_law 611 = .ok (.goto 468, 3) := by decide +kernel
theorem z_L_law_614 : decode b_L_law 614 = .ok (.aload_n 1, 1) := by decide +kernel
theorem z_L_law_615 : decode b_L_law 615 = .ok (.aload_n 0, 1) := by decide +kernel
theorem z_L_law_616 : decode b_L_law 616 = .ok (.iload 4, 2) := by decide +kernel
theorem z_L_law_618 : decode b_L_law 618 = .ok (.iconst 1, 1) := by decide +kernel
theorem z_L_law_619 : decode b_L_law 619 = .ok (.iadd, 1) := by decide +kernel
theorem z_L_law_620 : decode b_L_law 620 = .ok (.iaload, 1) := by decide +kernel
theorem z_L_law_621 : decode b_L_law 621 = .ok (.aload_n 0, 1) := by decide +kernel
theorem z_L_law_622 : decode b_L_law 622 = .ok (.iload 4, 2) := by decide +kernel
theorem z_L_law_624 : decode b_L_law 624 = .ok (.iconst 2, 1) := by decide +kernel
theorem z_L_law_625 : decode b_L_law 625 = .ok (.iadd, 1) := by decide +kernel
theorem z_L_law_626 : decode b_L_law 626 = .ok (.iaload, 1) := by decide +kernel
theorem z_L_law_627 : decode b_L_law 627 = .ok (.aload_n 0, 1) := by decide +kernel
theorem z_L_law_628 : decode b_L_law 628 = .ok (.iload 4, 2) := by decide +kernel
theorem z_L_law_630 : decode b_L_law 630 = .ok (.iconst 3, 1) := by decide +kernel
theorem z_L_law_631 : decode b_L_law 631 = .ok (.iadd, 1) := by decide +kernel
theorem z_L_law_632 : decode b_L_law 632 = .ok (.iaload, 1) := by decide +kernel
theorem z_L_law_633 : decode b_L_law 633 = .ok (.aload_n 3, 1) := by decide +kernel
theorem z_L_law_634 : decode b_L_law 634 = .ok (.invokestatic 96, 3) := by decide +kernel
theorem z_L_law_637 : decode b_L_law 637 = .ok (.istore 5, 2) := by decide +kernel
theorem z_L_law_639 : decode b_L_law 639 = .ok (.aload_n 2, 1) := by decide +kernel
theorem z_L_law_640 : decode b_L_law 640 = .ok (.aload_n 0, 1) := by decide +kernel
theorem z_L_law_641 : decode b_L_law 641 = .ok (.iload 4, 2) := by decide +kernel
theorem z_L_law_643 : decode b_L_law 643 = .ok (.iconst 1, 1) := by decide +kernel
theorem z_L_law_644 : decode b_L_law 644 = .ok (.iadd, 1) := by decide +kernel
theorem z_L_law_645 : decode b_L_law 645 = .ok (.iaload, 1) := by decide +kernel
theorem z_L_law_646 : decode b_L_law 646 = .ok (.aload_n 0, 1) := by decide +kernel
theorem z_L_law_647 : decode b_L_law 647 = .ok (.iload 4, 2) := by decide +kernel
theorem z_L_law_649 : decode b_L_law 649 = .ok (.iconst 2, 1) := by decide +kernel
theorem z_L_law_650 : decode b_L_law 650 = .ok (.iadd, 1) := by decide +kernel
theorem z_L_law_651 : decode b_L_law 651 = .ok (.iaload, 1) := by decide +kernel
theorem z_L_law_652 : decode b_L_law 652 = .ok (.aload_n 0, 1) := by decide +kernel
theorem z_L_law_653 : decode b_L_law 653 = .ok (.iload 4, 2) := by decide +kernel
theorem z_L_law_655 : decode b_L_law 655 = .ok (.iconst 3, 1) := by decide +kernel
theorem z_L_law_656 : decode b_L_law 656 = .ok (.iadd, 1) := by decide +kernel
theorem z_L_law_657 : decode b_L_law 657 = .ok (.iaload, 1) := by decide +kernel
theorem z_L_law_658 : decode b_L_law 658 = .ok (.invokevirtual 99, 3) := by decide +kernel
theorem z_L_law_661 : decode b_L_law 661 = .ok (.istore 6, 2) := by decide +kernel
theorem z_L_law_663 : decode b_L_law 663 = .ok (.aload_n 2, 1) := by decide +kernel
theorem z_L_law_664 : decode b_L_law 664 = .ok (.invokevirtual 71, 3) := by decide +kernel
theorem z_L_law_667 : decode b_L_law 667 = .ok (.iload 5, 2) := by decide +kernel
theorem z_L_law_669 : decode b_L_law 669 = .ok (.if_icmp .eq 5, 3) := by decide +kernel
theorem z_L_law_672 : decode b_L_law 672 = .ok (.iconst 0, 1) := by decide +kernel
theorem z_L_law_673 : decode b_L_law 673 = .ok (.ireturn, 1) := by decide +kernel
theorem z_L_law_674 : decode b_L_law 674 = .ok (.iload 5, 2) := by decide +kernel
theorem z_L_law_676 : decode b_L_law 676 = .ok (.ifCond .ne 15, 3) := by decide +kernel
theorem z_L_law_679 : decode b_L_law 679 = .ok (.aload_n 3, 1) := by decide +kernel
theorem z_L_law_680 : decode b_L_law 680 = .ok (.iconst 0, 1) := by decide +kernel
theorem z_L_law_681 : decode b_L_law 681 = .ok (.laload, 1) := by decide +kernel
theorem z_L_law_682 : decode b_L_law 682 = .ok (.iload 6, 2) := by decide +kernel
theorem z_L_law_684 : decode b_L_law 684 = .ok (.i2l, 1) := by decide +kernel
theorem z_L_law_685 : decode b_L_law 685 = .ok (.lcmp, 1) := by decide +kernel
theorem z_L_law_686 : decode b_L_law 686 = .ok (.ifCond .eq 5, 3) := by decide +kernel
theorem z_L_law_689 : decode b_L_law 689 = .ok (.iconst 0, 1) := by decide +kernel
theorem z_L_law_690 : decode b_L_law 690 = .ok (.ireturn, 1) := by decide +kernel
theorem z_L_law_691 : decode b_L_law 691 = .ok (.goto 388, 3) := by decide +kernel
theorem z_L_law_694 : decode b_L_law 694 = .ok (.aload_n 1, 1) := by decide +kernel
theorem z_L_law_695 : decode b_L_law 695 = .ok (.aload_n 0, 1) := by decide +kernel
theorem z_L_law_696 : decode b_L_law 696 = .ok (.iload 4, 2) := by decide +kernel
theorem z_L_law_698 : decode b_L_law 698 = .ok (.iconst 1, 1) := by decide +kernel
theorem z_L_law_699 : decode b_L_law 699 = .ok (.iadd, 1) := by decide +kernel
theorem z_L_law_700 : decode b_L_law 700 = .ok (.iaload, 1) := by decide +kernel
theorem z_L_law_701 : decode b_L_law 701 = .ok (.aload_n 0, 1) := by decide +kernel
theorem z_L_law_702 : decode b_L_law 702 = .ok (.iload 4, 2) := by decide +kernel
theorem z_L_law_704 : decode b_L_law 704 = .ok (.iconst 2, 1) := by decide +kernel
theorem z_L_law_705 : decode b_L_law 705 = .ok (.iadd, 1) := by decide +kernel
theorem z_L_law_706 : decode b_L_law 706 = .ok (.iaload, 1) := by decide +kernel
theorem z_L_law_707 : decode b_L_law 707 = .ok (.i2l, 1) := by decide +kernel
theorem z_L_law_708 : decode b_L_law 708 = .ok (.bipush 32, 2) := by decide +kernel
theorem z_L_law_710 : decode b_L_law 710 = .ok (.lshl, 1) := by decide +kernel
theorem z_L_law_711 : decode b_L_law 711 = .ok (.aload_n 0, 1) := by decide +kernel
theorem z_L_law_712 : decode b_L_law 712 = .ok (.iload 4, 2) := by decide +kernel
theorem z_L_law_714 : decode b_L_law 714 = .ok (.iconst 3, 1) := by decide +kernel
theorem z_L_law_715 : decode b_L_law 715 = .ok (.iadd, 1) := by decide +kernel
theorem z_L_law_716 : decode b_L_law 716 = .ok (.iaload, 1) := by decide +kernel
theorem z_L_law_717 : decode b_L_law 717 = .ok (.i2l, 1) := by decide +kernel
theorem z_L_law_718 : decode b_L_law 718 = .ok (.ldc2_w 90, 3) := by decide +kernel
theorem z_L_law_721 : decode b_L_law 721 = .ok (.land, 1) := by decide +kernel
theorem z_L_law_722 : decode b_L_law 722 = .ok (.lor, 1) := by decide +kernel
theorem z_L_law_723 : decode b_L_law 723 = .ok (.aload_n 0, 1) := by decide +kernel
theorem z_L_law_724 : decode b_L_law 724 = .ok (.iload 4, 2) := by decide +kernel
theorem z_L_law_726 : decode b_L_law 726 = .ok (.iconst 4, 1) := by decide +kernel
theorem z_L_law_727 : decode b_L_law 727 = .ok (.iadd, 1) := by decide +kernel
theorem z_L_law_728 : decode b_L_law 728 = .ok (.iaload, 1) := by decide +kernel
theorem z_L_law_729 : decode b_L_law 729 = .ok (.aload_n 3, 1) := by decide +kernel
theorem z_L_law_730 : decode b_L_law 730 = .ok (.invokestatic 100, 3) := by decide +kernel
theorem z_L_law_733 : decode b_L_law 733 = .ok (.istore 5, 2) := by decide +kernel
theorem z_L_law_735 : decode b_L_law 735 = .ok (.aload_n 2, 1) := by decide +kernel
theorem z_L_law_736 : decode b_L_law 736 = .ok (.aload_n 0, 1) := by decide +kernel
theorem z_L_law_737 : decode b_L_law 737 = .ok (.iload 4, 2) := by decide +kernel
theorem z_L_law_739 : decode b_L_law 739 = .ok (.iconst 1, 1) := by decide +kernel
theorem z_L_law_740 : decode b_L_law 740 = .ok (.iadd, 1) := by decide +kernel
theorem z_L_law_741 : decode b_L_law 741 = .ok (.iaload, 1) := by decide +kernel
theorem z_L_law_742 : decode b_L_law 742 = .ok (.aload_n 0, 1) := by decide +kernel
theorem z_L_law_743 : decode b_L_law 743 = .ok (.iload 4, 2) := by decide +kernel
theorem z_L_law_745 : decode b_L_law 745 = .ok (.iconst 2, 1) := by decide +kernel
theorem z_L_law_746 : decode b_L_law 746 = .ok (.iadd, 1) := by decide +kernel
theorem z_L_law_747 : decode b_L_law 747 = .ok (.iaload, 1) := by decide +kernel
theorem z_L_law_748 : decode b_L_law 748 = .ok (.i2l, 1) := by decide +kernel
theorem z_L_law_749 : decode b_L_law 749 = .ok (.bipush 32, 2) := by decide +kernel
theorem z_L_law_751 : decode b_L_law 751 = .ok (.lshl, 1) := by decide +kernel
theorem z_L_law_752 : decode b_L_law 752 = .ok (.aload_n 0, 1) := by decide +kernel
theorem z_L_law_753 : decode b_L_law 753 = .ok (.iload 4, 2) := by decide +kernel
theorem z_L_law_755 : decode b_L_law 755 = .ok (.iconst 3, 1) := by decide +kernel
theorem z_L_law_756 : decode b_L_law 756 = .ok (.iadd, 1) := by decide +kernel
theorem z_L_law_757 : decode b_L_law 757 = .ok (.iaload, 1) := by decide +kernel
theorem z_L_law_758 : decode b_L_law 758 = .ok (.i2l, 1) := by decide +kernel
theorem z_L_law_759 : decode b_L_law 759 = .ok (.ldc2_w 90, 3) := by decide +kernel
theorem z_L_law_762 : decode b_L_law 762 = .ok (.land, 1) := by decide +kernel
theorem z_L_law_763 : decode b_L_law 763 = .ok (.lor, 1) := by decide +kernel
theorem z_L_law_764 : decode b_L_law 764 = .ok (.aload_n 0, 1) := by decide +kernel
theorem z_L_law_765 : decode b_L_law 765 = .ok (.iload 4, 2) := by decide +kernel
theorem z_L_law_767 : decode b_L_law 767 = .ok (.iconst 4, 1) := by decide +kernel
theorem z_L_law_768 : decode b_L_law 768 = .ok (.iadd, 1) := by decide +kernel
theorem z_L_law_769 : decode b_L_law 769 = .ok (.iaload, 1) := by decide +kernel
theorem z_L_law_770 : decode b_L_law 770 = .ok (.invokevirtual 103, 3) := by decide +kernel
theorem z_L_law_773 : decode b_L_law 773 = .ok (.istore 6, 2) := by decide +kernel
theorem z_L_law_775 : decode b_L_law 775 = .ok (.aload_n 2, 1) := by decide +kernel
theorem z_L_law_776 : decode b_L_law 776 = .ok (.invokevirtual 71, 3) := by decide +kernel
theorem z_L_law_779 : decode b_L_law 779 = .ok (.iload 5, 2) := by decide +kernel
theorem z_L_law_781 : decode b_L_law 781 = .ok (.if_icmp .eq 5, 3) := by decide +kernel
theorem z_L_law_784 : decode b_L_law 784 = .ok (.iconst 0, 1) := by decide +kernel
theorem z_L_law_785 : decode b_L_law 785 = .ok (.ireturn, 1) := by decide +kernel
theorem z_L_law_786 : decode b_L_law 786 = .ok (.iload 5, 2) := by decide +kernel
theorem z_L_law_788 : decode b_L_law 788 = .ok (.ifCond .ne 15, 3) := by decide +kernel
theorem z_L_law_791 : decode b_L_law 791 = .ok (.aload_n 3, 1) := by decide +kernel
theorem z_L_law_792 : decode b_L_law 792 = .ok (.iconst 0, 1) := by decide +kernel
theorem z_L_law_793 : decode b_L_law 793 = .ok (.laload, 1) := by decide +kernel
theorem z_L_law_794 : decode b_L_law 794 = .ok (.iload 6, 2) := by decide +kernel
theorem z_L_law_796 : decode b_L_law 796 = .ok (.i2l, 1) := by decide +kernel
theorem z_L_law_797 : decode b_L_law 797 = .ok (.lcmp, 1) := by decide +kernel
theorem z_L_law_798 : decode b_L_law 798 = .ok (.ifCond .eq 5, 3) := by decide +kernel
theorem z_L_law_801 : decode b_L_law 801 = .ok (.iconst 0, 1) := by decide +kernel
theorem z_L_law_802 : decode b_L_law 802 = .ok (.ireturn, 1) := by decide +kernel
theorem z_L_law_803 : decode b_L_law 803 = .ok (.goto 276, 3) := by decide +kernel
theorem z_L_law_806 : decode b_L_law 806 = .ok (.aload_n 1, 1) := by decide +kernel
theorem z_L_law_807 : decode b_L_law 807 = .ok (.aload_n 0, 1) := by decide +kernel
theorem z_L_law_808 : decode b_L_law 808 = .ok (.iload 4, 2) := by decide +kernel
theorem z_L_law_810 : decode b_L_law 810 = .ok (.iconst 1, 1) := by decide +kernel
theorem z_L_law_811 : decode b_L_law 811 = .ok (.iadd, 1) := by decide +kernel
theorem z_L_law_812 : decode b_L_law 812 = .ok (.iaload, 1) := by decide +kernel
theorem z_L_law_813 : decode b_L_law 813 = .ok (.aload_n 0, 1) := by decide +kernel
theorem z_L_law_814 : decode b_L_law 814 = .ok (.iload 4, 2) := by decide +kernel
theorem z_L_law_816 : decode b_L_law 816 = .ok (.iconst 2, 1) := by decide +kernel
theorem z_L_law_817 : decode b_L_law 817 = .ok (.iadd, 1) := by decide +kernel
theorem z_L_law_818 : decode b_L_law 818 = .ok (.iaload, 1) := by decide +kernel
theorem z_L_law_819 : decode b_L_law 819 = .ok (.aload_n 0, 1) := by decide +kernel
theorem z_L_law_820 : decode b_L_law 820 = .ok (.iload 4, 2) := by decide +kernel
theorem z_L_law_822 : decode b_L_law 822 = .ok (.iconst 3, 1) := by decide +kernel
theorem z_L_law_823 : decode b_L_law 823 = .ok (.iadd, 1) := by decide +kernel
theorem z_L_law_824 : decode b_L_law 824 = .ok (.iaload, 1) := by decide +kernel
theorem z_L_law_825 : decode b_L_law 825 = .ok (.aload_n 3, 1) := by decide +kernel
theorem z_L_law_826 : decode b_L_law 826 = .ok (.invokestatic 104, 3) := by decide +kernel
theorem z_L_law_829 : decode b_L_law 829 = .ok (.istore 5, 2) := by decide +kernel
theorem z_L_law_831 : decode b_L_law 831 = .ok (.aload_n 2, 1) := by decide +kernel
theorem z_L_law_832 : decode b_L_law 832 = .ok (.aload_n 0, 1) := by decide +kernel
theorem z_L_law_833 : decode b_L_law 833 = .ok (.iload 4, 2) := by decide +kernel
theorem z_L_law_835 : decode b_L_law 835 = .ok (.iconst 1, 1) := by decide +kernel
theorem z_L_law_836 : decode b_L_law 836 = .ok (.iadd, 1) := by decide +kernel
theorem z_L_law_837 : decode b_L_law 837 = .ok (.iaload, 1) := by decide +kernel
theorem z_L_law_838 : decode b_L_law 838 = .ok (.aload_n 0, 1) := by decide +kernel
theorem z_L_law_839 : decode b_L_law 839 = .ok (.iload 4, 2) := by decide +kernel
theorem z_L_law_841 : decode b_L_law 841 = .ok (.iconst 2, 1) := by decide +kernel
theorem z_L_law_842 : decode b_L_law 842 = .ok (.iadd, 1) := by decide +kernel
theorem z_L_law_843 : decode b_L_law 843 = .ok (.iaload, 1) := by decide +kernel
theorem z_L_law_844 : decode b_L_law 844 = .ok (.aload_n 0, 1) := by decide +kernel
theorem z_L_law_845 : decode b_L_law 845 = .ok (.iload 4, 2) := by decide +kernel
theorem z_L_law_847 : decode b_L_law 847 = .ok (.iconst 3, 1) := by decide +kernel
theorem z_L_law_848 : decode b_L_law 848 = .ok (.iadd, 1) := by decide +kernel
theorem z_L_law_849 : decode b_L_law 849 = .ok (.iaload, 1) := by decide +kernel
theorem z_L_law_850 : decode b_L_law 850 = .ok (.invokevirtual 106, 3) := by decide +kernel
theorem z_L_law_853 : decode b_L_law 853 = .ok (.istore 6, 2) := by decide +kernel
theorem z_L_law_855 : decode b_L_law 855 = .ok (.aload_n 2, 1) := by decide +kernel
theorem z_L_law_856 : decode b_L_law 856 = .ok (.invokevirtual 71, 3) := by decide +kernel
theorem z_L_law_859 : decode b_L_law 859 = .ok (.iload 5, 2) := by decide +kernel
theorem z_L_law_861 : decode b_L_law 861 = .ok (.if_icmp .eq 5, 3) := by decide +kernel
theorem z_L_law_864 : decode b_L_law 864 = .ok (.iconst 0, 1) := by decide +kernel
theorem z_L_law_865 : decode b_L_law 865 = .ok (.ireturn, 1) := by decide +kernel
theorem z_L_law_866 : decode b_L_law 866 = .ok (.iload 5, 2) := by decide +kernel
theorem z_L_law_868 : decode b_L_law 868 = .ok (.ifCond .ne 15, 3) := by decide +kernel
theorem z_L_law_871 : decode b_L_law 871 = .ok (.aload_n 3, 1) := by decide +kernel
theorem z_L_law_872 : decode b_L_law 872 = .ok (.iconst 0, 1) := by decide +kernel
theorem z_L_law_873 : decode b_L_law 873 = .ok (.laload, 1) := by decide +kernel
theorem z_L_law_874 : decode b_L_law 874 = .ok (.iload 6, 2) := by decide +kernel
theorem z_L_law_876 : decode b_L_law 876 = .ok (.i2l, 1) := by decide +kernel
theorem z_L_law_877 : decode b_L_law 877 = .ok (.lcmp, 1) := by decide +kernel
theorem z_L_law_878 : decode b_L_law 878 = .ok (.ifCond .eq 5, 3) := by decide +kernel
theorem z_L_law_881 : decode b_L_law 881 = .ok (.iconst 0, 1) := by decide +kernel
theorem z_L_law_882 : decode b_L_law 882 = .ok (.ireturn, 1) := by decide +kernel
theorem z_L_law_883 : decode b_L_law 883 = .ok (.goto 196, 3) := by decide +kernel
theorem z_L_law_886 : decode b_L_law 886 = .ok (.aload_n 1, 1) := by decide +kernel
theorem z_L_law_887 : decode b_L_law 887 = .ok (.aload_n 0, 1) := by decide +kernel
theorem z_L_law_888 : decode b_L_law 888 = .ok (.iload 4, 2) := by decide +kernel
theorem z_L_law_890 : decode b_L_law 890 = .ok (.iconst 1, 1) := by decide +kernel
theorem z_L_law_891 : decode b_L_law 891 = .ok (.iadd, 1) := by decide +kernel
theorem z_L_law_892 : decode b_L_law 892 = .ok (.iaload, 1) := by decide +kernel
theorem z_L_law_893 : decode b_L_law 893 = .ok (.aload_n 0, 1) := by decide +kernel
theorem z_L_law_894 : decode b_L_law 894 = .ok (.iload 4, 2) := by decide +kernel
theorem z_L_law_896 : decode b_L_law 896 = .ok (.iconst 2, 1) := by decide +kernel
theorem z_L_law_897 : decode b_L_law 897 = .ok (.iadd, 1) := by decide +kernel
theorem z_L_law_898 : decode b_L_law 898 = .ok (.iaload, 1) := by decide +kernel
theorem z_L_law_899 : decode b_L_law 899 = .ok (.aload_n 3, 1) := by decide +kernel
theorem z_L_law_900 : decode b_L_law 900 = .ok (.invokestatic 107, 3) := by decide +kernel
theorem z_L_law_903 : decode b_L_law 903 = .ok (.istore 5, 2) := by decide +kernel
theorem z_L_law_905 : decode b_L_law 905 = .ok (.aload_n 2, 1) := by decide +kernel
theorem z_L_law_906 : decode b_L_law 906 = .ok (.aload_n 0, 1) := by decide +kernel
theorem z_L_law_907 : decode b_L_law 907 = .ok (.iload 4, 2) := by decide +kernel
theorem z_L_law_909 : decode b_L_law 909 = .ok (.iconst 1, 1) := by decide +kernel
theorem z_L_law_910 : decode b_L_law 910 = .ok (.iadd, 1) := by decide +kernel
theorem z_L_law_911 : decode b_L_law 911 = .ok (.iaload, 1) := by decide +kernel
theorem z_L_law_912 : decode b_L_law 912 = .ok (.aload_n 0, 1) := by decide +kernel
theorem z_L_law_913 : decode b_L_law 913 = .ok (.iload 4, 2) := by decide +kernel
theorem z_L_law_915 : decode b_L_law 915 = .ok (.iconst 2, 1) := by decide +kernel
theorem z_L_law_916 : decode b_L_law 916 = .ok (.iadd, 1) := by decide +kernel
theorem z_L_law_917 : decode b_L_law 917 = .ok (.iaload, 1) := by decide +kernel
theorem z_L_law_918 : decode b_L_law 918 = .ok (.invokevirtual 109, 3) := by decide +kernel
theorem z_L_law_921 : decode b_L_law 921 = .ok (.istore 6, 2) := by decide +kernel
theorem z_L_law_923 : decode b_L_law 923 = .ok (.aload_n 2, 1) := by decide +kernel
theorem z_L_law_924 : decode b_L_law 924 = .ok (.invokevirtual 71, 3) := by decide +kernel
theorem z_L_law_927 : decode b_L_law 927 = .ok (.iload 5, 2) := by decide +kernel
theorem z_L_law_929 : decode b_L_law 929 = .ok (.if_icmp .eq 5, 3) := by decide +kernel
theorem z_L_law_932 : decode b_L_law 932 = .ok (.iconst 0, 1) := by decide +kernel
theorem z_L_law_933 : decode b_L_law 933 = .ok (.ireturn, 1) := by decide +kernel
theorem z_L_law_934 : decode b_L_law 934 = .ok (.iload 5, 2) := by decide +kernel
theorem z_L_law_936 : decode b_L_law 936 = .ok (.ifCond .ne 15, 3) := by decide +kernel
theorem z_L_law_939 : decode b_L_law 939 = .ok (.aload_n 3, 1) := by decide +kernel
theorem z_L_law_940 : decode b_L_law 940 = .ok (.iconst 0, 1) := by decide +kernel
theorem z_L_law_941 : decode b_L_law 941 = .ok (.laload, 1) := by decide +kernel
theorem z_L_law_942 : decode b_L_law 942 = .ok (.iload 6, 2) := by decide +kernel
theorem z_L_law_944 : decode b_L_law 944 = .ok (.i2l, 1) := by decide +kernel
theorem z_L_law_945 : decode b_L_law 945 = .ok (.lcmp, 1) := by decide +kernel
theorem z_L_law_946 : decode b_L_law 946 = .ok (.ifCond .eq 5, 3) := by decide +kernel
theorem z_L_law_949 : decode b_L_law 949 = .ok (.iconst 0, 1) := by decide +kernel
theorem z_L_law_950 : decode b_L_law 950 = .ok (.ireturn, 1) := by decide +kernel
theorem z_L_law_951 : decode b_L_law 951 = .ok (.goto 128, 3) := by decide +kernel
theorem z_L_law_954 : decode b_L_law 954 = .ok (.aload_n 1, 1) := by decide +kernel
theorem z_L_law_955 : decode b_L_law 955 = .ok (.aload_n 0, 1) := by decide +kernel
theorem z_L_law_956 : decode b_L_law 956 = .ok (.iload 4, 2) := by decide +kernel
theorem z_L_law_958 : decode b_L_law 958 = .ok (.iconst 1, 1) := by decide +kernel
theorem z_L_law_959 : decode b_L_law 959 = .ok (.iadd, 1) := by decide +kernel
theorem z_L_law_960 : decode b_L_law 960 = .ok (.iaload, 1) := by decide +kernel
theorem z_L_law_961 : decode b_L_law 961 = .ok (.aload_n 3, 1) := by decide +kernel
theorem z_L_law_962 : decode b_L_law 962 = .ok (.invokestatic 110, 3) := by decide +kernel
theorem z_L_law_965 : decode b_L_law 965 = .ok (.istore 5, 2) := by decide +kernel
theorem z_L_law_967 : decode b_L_law 967 = .ok (.aload_n 2, 1) := by decide +kernel
theorem z_L_law_968 : decode b_L_law 968 = .ok (.aload_n 0, 1) := by decide +kernel
theorem z_L_law_969 : decode b_L_law 969 = .ok (.iload 4, 2) := by decide +kernel
theorem z_L_law_971 : decode b_L_law 971 = .ok (.iconst 1, 1) := by decide +kernel
theorem z_L_law_972 : decode b_L_law 972 = .ok (.iadd, 1) := by decide +kernel
theorem z_L_law_973 : decode b_L_law 973 = .ok (.iaload, 1) := by decide +kernel
theorem z_L_law_974 : decode b_L_law 974 = .ok (.invokevirtual 113, 3) := by decide +kernel
theorem z_L_law_977 : decode b_L_law 977 = .ok (.istore 6, 2) := by decide +kernel
theorem z_L_law_979 : decode b_L_law 979 = .ok (.aload_n 2, 1) := by decide +kernel
theorem z_L_law_980 : decode b_L_law 980 = .ok (.invokevirtual 71, 3) := by decide +kernel
theorem z_L_law_983 : decode b_L_law 983 = .ok (.iload 5, 2) := by decide +kernel
theorem z_L_law_985 : decode b_L_law 985 = .ok (.if_icmp .eq 5, 3) := by decide +kernel
theorem z_L_law_988 : decode b_L_law 988 = .ok (.iconst 0, 1) := by decide +kernel
theorem z_L_law_989 : decode b_L_law 989 = .ok (.ireturn, 1) := by decide +kernel
theorem z_L_law_990 : decode b_L_law 990 = .ok (.iload 5, 2) := by decide +kernel
theorem z_L_law_992 : decode b_L_law 992 = .ok (.ifCond .ne 15, 3) := by decide +kernel
theorem z_L_law_995 : decode b_L_law 995 = .ok (.aload_n 3, 1) := by decide +kernel
theorem z_L_law_996 : decode b_L_law 996 = .ok (.iconst 0, 1) := by decide +kernel
theorem z_L_law_997 : decode b_L_law 997 = .ok (.laload, 1) := by decide +kernel
theorem z_L_law_998 : decode b_L_law 998 = .ok (.iload 6, 2) := by decide +kernel
theorem z_L_law_1000 : decode b_L_law 1000 = .ok (.i2l, 1) := by decide +kernel
theorem z_L_law_1001 : decode b_L_law 1001 = .ok (.lcmp, 1) := by decide +kernel
theorem z_L_law_1002 : decode b_L_law 1002 = .ok (.ifCond .eq 5, 3) := by decide +kernel
theorem z_L_law_1005 : decode b_L_law 1005 = .ok (.iconst 0, 1) := by decide +kernel
theorem z_L_law_1006 : decode b_L_law 1006 = .ok (.ireturn, 1) := by decide +kernel
theorem z_L_law_1007 : decode b_L_law 1007 = .ok (.goto 72, 3) := by decide +kernel
theorem z_L_law_1010 : decode b_L_law 1010 = .ok (.aload_n 1, 1) := by decide +kernel
theorem z_L_law_1011 : decode b_L_law 1011 = .ok (.aload_n 0, 1) := by decide +kernel
theorem z_L_law_1012 : decode b_L_law 1012 = .ok (.iload 4, 2) := by decide +kernel
theorem z_L_law_1014 : decode b_L_law 1014 = .ok (.iconst 1, 1) := by decide +kernel
theorem z_L_law_1015 : decode b_L_law 1015 = .ok (.iadd, 1) := by decide +kernel
theorem z_L_law_1016 : decode b_L_law 1016 = .ok (.iaload, 1) := by decide +kernel
theorem z_L_law_1017 : decode b_L_law 1017 = .ok (.aload_n 3, 1) := by decide +kernel
theorem z_L_law_1018 : decode b_L_law 1018 = .ok (.invokestatic 114, 3) := by decide +kernel
theorem z_L_law_1021 : decode b_L_law 1021 = .ok (.istore 5, 2) := by decide +kernel
theorem z_L_law_1023 : decode b_L_law 1023 = .ok (.aload_n 2, 1) := by decide +kernel
theorem z_L_law_1024 : decode b_L_law 1024 = .ok (.aload_n 0, 1) := by decide +kernel
theorem z_L_law_1025 : decode b_L_law 1025 = .ok (.iload 4, 2) := by decide +kernel
theorem z_L_law_1027 : decode b_L_law 1027 = .ok (.iconst 1, 1) := by decide +kernel
theorem z_L_law_1028 : decode b_L_law 1028 = .ok (.iadd, 1) := by decide +kernel
theorem z_L_law_1029 : decode b_L_law 1029 = .ok (.iaload, 1) := by decide +kernel
theorem z_L_law_1030 : decode b_L_law 1030 = .ok (.invokevirtual 116, 3) := by decide +kernel
theorem z_L_law_1033 : decode b_L_law 1033 = .ok (.istore 6, 2) := by decide +kernel
theorem z_L_law_1035 : decode b_L_law 1035 = .ok (.aload_n 2, 1) := by decide +kernel
theorem z_L_law_1036 : decode b_L_law 1036 = .ok (.invokevirtual 71, 3) := by decide +kernel
theorem z_L_law_1039 : decode b_L_law 1039 = .ok (.iload 5, 2) := by decide +kernel
theorem z_L_law_1041 : decode b_L_law 1041 = .ok (.if_icmp .eq 5, 3) := by decide +kernel
theorem z_L_law_1044 : decode b_L_law 1044 = .ok (.iconst 0, 1) := by decide +kernel
theorem z_L_law_1045 : decode b_L_law 1045 = .ok (.ireturn, 1) := by decide +kernel
theorem z_L_law_1046 : decode b_L_law 1046 = .ok (.iload 5, 2) := by decide +kernel
theorem z_L_law_1048 : decode b_L_law 1048 = .ok (.ifCond .ne 15, 3) := by decide +kernel
theorem z_L_law_1051 : decode b_L_law 1051 = .ok (.aload_n 3, 1) := by decide +kernel
theorem z_L_law_1052 : decode b_L_law 1052 = .ok (.iconst 0, 1) := by decide +kernel
theorem z_L_law_1053 : decode b_L_law 1053 = .ok (.laload, 1) := by decide +kernel
theorem z_L_law_1054 : decode b_L_law 1054 = .ok (.iload 6, 2) := by decide +kernel
theorem z_L_law_1056 : decode b_L_law 1056 = .ok (.i2l, 1) := by decide +kernel
theorem z_L_law_1057 : decode b_L_law 1057 = .ok (.lcmp, 1) := by decide +kernel
theorem z_L_law_1058 : decode b_L_law 1058 = .ok (.ifCond .eq 5, 3) := by decide +kernel
theorem z_L_law_1061 : decode b_L_law 1061 = .ok (.iconst 0, 1) := by decide +kernel
theorem z_L_law_1062 : decode b_L_law 1062 = .ok (.ireturn, 1) := by decide +kernel
theorem z_L_law_1063 : decode b_L_law 1063 = .ok (.goto 16, 3) := by decide +kernel
theorem z_L_law_1066 : decode b_L_law 1066 = .ok (.aload_n 1, 1) := by decide +kernel
theorem z_L_law_1067 : decode b_L_law 1067 = .ok (.invokevirtual 117, 3) := by decide +kernel
theorem z_L_law_1070 : decode b_L_law 1070 = .ok (.aload_n 2, 1) := by decide +kernel
theorem z_L_law_1071 : decode b_L_law 1071 = .ok (.invokevirtual 120, 3) := by decide +kernel
theorem z_L_law_1074 : decode b_L_law 1074 = .ok (.if_icmp .eq 5, 3) := by decide +kernel
theorem z_L_law_1077 : decode b_L_law 1077 = .ok (.iconst 0, 1) := by decide +kernel
theorem z_L_law_1078 : decode b_L_law 1078 = .ok (.ireturn, 1) := by decide +kernel
theorem z_L_law_1079 : decode b_L_law 1079 = .ok (.iinc 4 6, 3) := by decide +kernel
theorem z_L_law_1082 : decode b_L_law 1082 = .ok (.goto (-1059), 3) := by decide +kernel
theorem z_L_law_1085 : decode b_L_law 1085 = .ok (.iconst 1, 1) := by decide +kernel
theorem z_L_law_1086 : decode b_L_law 1086 = .ok (.ireturn, 1) := by decide +kernel
