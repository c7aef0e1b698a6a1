theorem d_Law_law_0 : decode code 0 = .ok (.new 8, 3) := by decide +kernel
theorem d_Law_law_3 : decode code 3 = .ok (.dup, 1) := by decide +kernel
theorem d_Law_law_4 : decode code 4 = .ok (.aload_n 0, 1) := by decide +kernel
theorem d_Law_law_5 : decode code 5 = .ok (.iconst 0, 1) := by decide +kernel
theorem d_Law_law_6 : decode code 6 = .ok (.invokestatic 53, 3) := by decide +kernel
theorem d_Law_law_9 : decode code 9 = .ok (.aload_n 0, 1) := by decide +kernel
theorem d_Law_law_10 : decode code 10 = .ok (.iconst 1, 1) := by decide +kernel
theorem d_Law_law_11 : decode code 11 = .ok (.invokestatic 53, 3) := by decide +kernel
theorem d_Law_law_14 : decode code 14 = .ok (.invokespecial 59, 3) := by decide +kernel
theorem d_Law_law_17 : decode code 17 = .ok (.astore_n 1, 1) := by decide +kernel
theorem d_Law_law_18 : decode code 18 = .ok (.new 62, 3) := by decide +kernel
theorem d_Law_law_21 : decode code 21 = .ok (.dup, 1) := by decide +kernel
theorem d_Law_law_22 : decode code 22 = .ok (.aload_n 0, 1) := by decide +kernel
theorem d_Law_law_23 : decode code 23 = .ok (.iconst 0, 1) := by decide +kernel
theorem d_Law_law_24 : decode code 24 = .ok (.invokestatic 53, 3) := by decide +kernel
theorem d_Law_law_27 : decode code 27 = .ok (.aload_n 0, 1) := by decide +kernel
theorem d_Law_law_28 : decode code 28 = .ok (.iconst 1, 1) := by decide +kernel
theorem d_Law_law_29 : decode code 29 = .ok (.invokestatic 53, 3) := by decide +kernel
theorem d_Law_law_32 : decode code 32 = .ok (.invokespecial 64, 3) := by decide +kernel
theorem d_Law_law_35 : decode code 35 = .ok (.astore_n 2, 1) := by decide +kernel
theorem d_Law_law_36 : decode code 36 = .ok (.iconst 1, 1) := by decide +kernel
theorem d_Law_law_37 : decode code 37 = .ok (.newarray .long, 2) := by decide +kernel
theorem d_Law_law_39 : decode code 39 = .ok (.astore_n 3, 1) := by decide +kernel
theorem d_Law_law_40 : decode code 40 = .ok (.iconst 2, 1) := by decide +kernel
theorem d_Law_law_41 : decode code 41 = .ok (.istore 4, 2) := by decide +kernel
theorem d_Law_law_43 : decode code 43 = .ok (.iload 4, 2) := by decide +kernel
theorem d_Law_law_45 : decode code 45 = .ok (.aload_n 0, 1) := by decide +kernel
theorem d_Law_law_46 : decode code 46 = .ok (.arraylength, 1) := by decide +kernel
theorem d_Law_law_47 : decode code 47 = .ok (.bipush 6, 2) := by decide +kernel
theorem d_Law_law_49 : decode code 49 = .ok (.isub, 1) := by decide +kernel
theorem d_Law_law_50 : decode code 50 = .ok (.if_icmp .gt 871, 3) := by decide +kernel
theorem d_Law_law_53 : decode code 53 = .ok (.aload_n 0, 1) := by decide +kernel
theorem d_Law_law_54 : decode code 54 = .ok (.iload 4, 2) := by decide +kernel
theorem d_Law_law_56 : decode code 56 = .ok (.iaload, 1) := by decide +kernel
theorem d_Law_law_57 : decode code 57 = .ok (.bipush 15, 2) := by decide +kernel
theorem d_Law_law_59 : decode code 59 = .ok (.iand, 1) := by decide +kernel
theorem d_Law_law_60 : decode code 60 = .ok (.tableswitch 855 0 11 #[64, 188, 280, 336, 428, 484, 584, 639, 695, 751, 819, 844], 64) := by decide +kernel
theorem d_Law_law_124 : decode code 124 = .ok (.aload_n 1, 1) := by decide +kernel
theorem d_Law_law_125 : decode code 125 = .ok (.aload_n 0, 1) := by decide +kernel
theorem d_Law_law_126 : decode code 126 = .ok (.iload 4, 2) := by decide +kernel
theorem d_Law_law_128 : decode code 128 = .ok (.iconst 1, 1) := by decide +kernel
theorem d_Law_law_129 : decode code 129 = .ok (.iadd, 1) := by decide +kernel
theorem d_Law_law_130 : decode code 130 = .ok (.iaload, 1) := by decide +kernel
theorem d_Law_law_131 : decode code 131 = .ok (.aload_n 0, 1) := by decide +kernel
theorem d_Law_law_132 : decode code 132 = .ok (.iload 4, 2) := by decide +kernel
theorem d_Law_law_134 : decode code 134 = .ok (.iconst 2, 1) := by decide +kernel
theorem d_Law_law_135 : decode code 135 = .ok (.iadd, 1) := by decide +kernel
theorem d_Law_law_136 : decode code 136 = .ok (.iaload, 1) := by decide +kernel
theorem d_Law_law_137 : decode code 137 = .ok (.aload_n 0, 1) := by decide +kernel
theorem d_Law_law_138 : decode code 138 = .ok (.iload 4, 2) := by decide +kernel
theorem d_Law_law_140 : decode code 140 = .ok (.iconst 3, 1) := by decide +kernel
theorem d_Law_law_141 : decode code 141 = .ok (.iadd, 1) := by decide +kernel
theorem d_Law_law_142 : decode code 142 = .ok (.iaload, 1) := by decide +kernel
theorem d_Law_law_143 : decode code 143 = .ok (.aload_n 0, 1) := by decide +kernel
theorem d_Law_law_144 : decode code 144 = .ok (.iload 4, 2) := by decide +kernel
theorem d_Law_law_146 : decode code 146 = .ok (.iconst 4, 1) := by decide +kernel
theorem d_Law_law_147 : decode code 147 = .ok (.iadd, 1) := by decide +kernel
theorem d_Law_law_148 : decode code 148 = .ok (.iaload, 1) := by decide +kernel
theorem d_Law_law_149 : decode code 149 = .ok (.i2l, 1) := by decide +kernel
theorem d_Law_law_150 : decode code 150 = .ok (.bipush 32, 2) := by decide +kernel
theorem d_Law_law_152 : decode code 152 = .ok (.lshl, 1) := by decide +kernel
theorem d_Law_law_153 : decode code 153 = .ok (.aload_n 0, 1) := by decide +kernel
theorem d_Law_law_154 : decode code 154 = .ok (.iload 4, 2) := by decide +kernel
theorem d_Law_law_156 : decode code 156 = .ok (.iconst 5, 1) := by decide +kernel
theorem d_Law_law_157 : decode code 157 = .ok (.iadd, 1) := by decide +kernel
theorem d_Law_law_158 : decode code 158 = .ok (.iaload, 1) := by decide +kernel
theorem d_Law_law_159 : decode code 159 = .ok (.i2l, 1) := by decide +kernel
theorem d_Law_law_160 : decode code 160 = .ok (.ldc2_w 65, 3) := by decide +kernel
theorem d_Law_law_163 : decode code 163 = .ok (.land, 1) := by decide +kernel
theorem d_Law_law_164 : decode code 164 = .ok (.lor, 1) := by decide +kernel
theorem d_Law_law_165 : decode code 165 = .ok (.aload_n 3, 1) := by decide +kernel
theorem d_Law_law_166 : decode code 166 = .ok (.invokestatic 67, 3) := by decide +kernel
theorem d_Law_law_169 : decode code 169 = .ok (.istore 5, 2) := by decide +kernel
theorem d_Law_law_171 : decode code 171 = .ok (.aload_n 2, 1) := by decide +kernel
theorem d_Law_law_172 : decode code 172 = .ok (.aload_n 0, 1) := by decide +kernel
theorem d_Law_law_173 : decode code 173 = .ok (.iload 4, 2) := by decide +kernel
theorem d_Law_law_175 : decode code 175 = .ok (.iconst 1, 1) := by decide +kernel
theorem d_Law_law_176 : decode code 176 = .ok (.iadd, 1) := by decide +kernel
theorem d_Law_law_177 : decode code 177 = .ok (.iaload, 1) := by decide +kernel
theorem d_Law_law_178 : decode code 178 = .ok (.aload_n 0, 1) := by decide +kernel
theorem d_Law_law_179 : decode code 179 = .ok (.iload 4, 2) := by decide +kernel
theorem d_Law_law_181 : decode code 181 = .ok (.iconst 2, 1) := by decide +kernel
theorem d_Law_law_182 : decode code 182 = .ok (.iadd, 1) := by decide +kernel
theorem d_Law_law_183 : decode code 183 = .ok (.iaload, 1) := by decide +kernel
theorem d_Law_law_184 : decode code 184 = .ok (.aload_n 0, 1) := by decide +kernel
theorem d_Law_law_185 : decode code 185 = .ok (.iload 4, 2) := by decide +kernel
theorem d_Law_law_187 : decode code 187 = .ok (.iconst 3, 1) := by decide +kernel
theorem d_Law_law_188 : decode code 188 = .ok (.iadd, 1) := by decide +kernel
theorem d_Law_law_189 : decode code 189 = .ok (.iaload, 1) := by decide +kernel
theorem d_Law_law_190 : decode code 190 = .ok (.aload_n 0, 1) := by decide +kernel
theorem d_Law_law_191 : decode code 191 = .ok (.iload 4, 2) := by decide +kernel
theorem d_Law_law_193 : decode code 193 = .ok (.iconst 4, 1) := by decide +kernel
theorem d_Law_law_194 : decode code 194 = .ok (.iadd, 1) := by decide +kernel
theorem d_Law_law_195 : decode code 195 = .ok (.iaload, 1) := by decide +kernel
theorem d_Law_law_196 : decode code 196 = .ok (.i2l, 1) := by decide +kernel
theorem d_Law_law_197 : decode code 197 = .ok (.bipush 32, 2) := by decide +kernel
theorem d_Law_law_199 : decode code 199 = .ok (.lshl, 1) := by decide +kernel
theorem d_Law_law_200 : decode code 200 = .ok (.aload_n 0, 1) := by decide +kernel
theorem d_Law_law_201 : decode code 201 = .ok (.iload 4, 2) := by decide +kernel
theorem d_Law_law_203 : decode code 203 = .ok (.iconst 5, 1) := by decide +kernel
theorem d_Law_law_204 : decode code 204 = .ok (.iadd, 1) := by decide +kernel
theorem d_Law_law_205 : decode code 205 = .ok (.iaload, 1) := by decide +kernel
theorem d_Law_law_206 : decode code 206 = .ok (.i2l, 1) := by decide +kernel
theorem d_Law_law_207 : decode code 207 = .ok (.ldc2_w 65, 3) := by decide +kernel
theorem d_Law_law_210 : decode code 210 = .ok (.land, 1) := by decide +kernel
theorem d_Law_law_211 : decode code 211 = .ok (.lor, 1) := by decide +kernel
theorem d_Law_law_212 : decode code 212 = .ok (.invokevirtual 70, 3) := by decide +kernel
theorem d_Law_law_215 : decode code 215 = .ok (.istore 6, 2) := by decide +kernel
theorem d_Law_law_217 : decode code 217 = .ok (.aload_n 2, 1) := by decide +kernel
theorem d_Law_law_218 : decode code 218 = .ok (.invokevirtual 71, 3) := by decide +kernel
theorem d_Law_law_221 : decode code 221 = .ok (.iload 5, 2) := by decide +kernel
theorem d_Law_law_223 : decode code 223 = .ok (.if_icmp .eq 5, 3) := by decide +kernel
theorem d_Law_law_226 : decode code 226 = .ok (.iconst 0, 1) := by decide +kernel
theorem d_Law_law_227 : decode code 227 = .ok (.ireturn, 1) := by decide +kernel
theorem d_Law_law_228 : decode code 228 = .ok (.iload 5, 2) := by decide +kernel
theorem d_Law_law_230 : decode code 230 = .ok (.ifCond .ne 15, 3) := by decide +kernel
theorem d_Law_law_233 : decode code 233 = .ok (.aload_n 3, 1) := by decide +kernel
theorem d_Law_law_234 : decode code 234 = .ok (.iconst 0, 1) := by decide +kernel
theorem d_Law_law_235 : decode code 235 = .ok (.laload, 1) := by decide +kernel
theorem d_Law_law_236 : decode code 236 = .ok (.iload 6, 2) := by decide +kernel
theorem d_Law_law_238 : decode code 238 = .ok (.i2l, 1) := by decide +kernel
theorem d_Law_law_239 : decode code 239 = .ok (.lcmp, 1) := by decide +kernel
theorem d_Law_law_240 : decode code 240 = .ok (.ifCond .eq 5, 3) := by decide +kernel
theorem d_Law_law_243 : decode code 243 = .ok (.iconst 0, 1) := by decide +kernel
theorem d_Law_law_244 : decode code 244 = .ok (.ireturn, 1) := by decide +kernel
theorem d_Law_law_245 : decode code 245 = .ok (.goto 670, 3) := by decide +kernel
theorem d_Law_law_248 : decode code 248 = .ok (.aload_n 1, 1) := by decide +kernel
theorem d_Law_law_249 : decode code 249 = .ok (.aload_n 0, 1) := by decide +kernel
theorem d_Law_law_250 : decode code 250 = .ok (.iload 4, 2) := by decide +kernel
theorem d_Law_law_252 : decode code 252 = .ok (.iconst 1, 1) := by decide +kernel
theorem d_Law_law_253 : decode code 253 = .ok (.iadd, 1) := by decide +kernel
theorem d_Law_law_254 : decode code 254 = .ok (.iaload, 1) := by decide +kernel
theorem d_Law_law_255 : decode code 255 = .ok (.aload_n 0, 1) := by decide +kernel
theorem d_Law_law_256 : decode code 256 = .ok (.iload 4, 2) := by decide +kernel
theorem d_Law_law_258 : decode code 258 = .ok (.iconst 2, 1) := by decide +kernel
theorem d_Law_law_259 : decode code 259 = .ok (.iadd, 1) := by decide +kernel
theorem d_Law_law_260 : decode code 260 = .ok (.iaload, 1) := by decide +kernel
theorem d_Law_law_261 : decode code 261 = .ok (.aload_n 0, 1) := by decide +kernel
theorem d_Law_law_262 : decode code 262 = .ok (.iload 4, 2) := by decide +kernel
theorem d_Law_law_264 : decode code 264 = .ok (.iconst 3, 1) := by decide +kernel
theorem d_Law_law_265 : decode code 265 = .ok (.iadd, 1) := by decide +kernel
theorem d_Law_law_266 : decode code 266 = .ok (.iaload, 1) := by decide +kernel
theorem d_Law_law_267 : decode code 267 = .ok (.aload_n 0, 1) := by decide +kernel
theorem d_Law_law_268 : decode code 268 = .ok (.iload 4, 2) := by decide +kernel
theorem d_Law_law_270 : decode code 270 = .ok (.iconst 4, 1) := by decide +kernel
theorem d_Law_law_271 : decode code 271 = .ok (.iadd, 1) := by decide +kernel
theorem d_Law_law_272 : decode code 272 = .ok (.iaload, 1) := by decide +kernel
theorem d_Law_law_273 : decode code 273 = .ok (.aload_n 3, 1) := by decide +kernel
theorem d_Law_law_274 : decode code 274 = .ok (.invokestatic 75, 3) := by decide +kernel
theorem d_Law_law_277 : decode code 277 = .ok (.istore 5, 2) := by decide +kernel
theorem d_Law_law_279 : decode code 279 = .ok (.aload_n 2, 1) := by decide +kernel
theorem d_Law_law_280 : decode code 280 = .ok (.aload_n 0, 1) := by decide +kernel
theorem d_Law_law_281 : decode code 281 = .ok (.iload 4, 2) := by decide +kernel
theorem d_Law_law_283 : decode code 283 = .ok (.iconst 1, 1) := by decide +kernel
theorem d_Law_law_284 : decode code 284 = .ok (.iadd, 1) := by decide +kernel
theorem d_Law_law_285 : decode code 285 = .ok (.iaload, 1) := by decide +kernel
theorem d_Law_law_286 : decode code 286 = .ok (.aload_n 0, 1) := by decide +kernel
theorem d_Law_law_287 : decode code 287 = .ok (.iload 4, 2) := by decide +kernel
theorem d_Law_law_289 : decode code 289 = .ok (.iconst 2, 1) := by decide +kernel
theorem d_Law_law_290 : decode code 290 = .ok (.iadd, 1) := by decide +kernel
theorem d_Law_law_291 : decode code 291 = .ok (.iaload, 1) := by decide +kernel
theorem d_Law_law_292 : decode code 292 = .ok (.aload_n 0, 1) := by decide +kernel
theorem d_Law_law_293 : decode code 293 = .ok (.iload 4, 2) := by decide +kernel
theorem d_Law_law_295 : decode code 295 = .ok (.iconst 3, 1) := by decide +kernel
theorem d_Law_law_296 : decode code 296 = .ok (.iadd, 1) := by decide +kernel
theorem d_Law_law_297 : decode code 297 = .ok (.iaload, 1) := by decide +kernel
theorem d_Law_law_298 : decode code 298 = .ok (.aload_n 0, 1) := by decide +kernel
theorem d_Law_law_299 : decode code 299 = .ok (.iload 4, 2) := by decide +kernel
theorem d_Law_law_301 : decode code 301 = .ok (.iconst 4, 1) := by decide +kernel
theorem d_Law_law_302 : decode code 302 = .ok (.iadd, 1) := by decide +kernel
theorem d_Law_law_303 : decode code 303 = .ok (.iaload, 1) := by decide +kernel
theorem d_Law_law_304 : decode code 304 = .ok (.invokevirtual 78, 3) := by decide +kernel
theorem d_Law_law_307 : decode code 307 = .ok (.istore 6, 2) := by decide +kernel
theorem d_Law_law_309 : decode code 309 = .ok (.aload_n 2, 1) := by decide +kernel
theorem d_Law_law_310 : decode code 310 = .ok (.invokevirtual 71, 3) := by decide +kernel
theorem d_Law_law_313 : decode code 313 = .ok (.iload 5, 2) := by decide +kernel
theorem d_Law_law_315 : decode code 315 = .ok (.if_icmp .eq 5, 3) := by decide +kernel
theorem d_Law_law_318 : decode code 318 = .ok (.iconst 0, 1) := by decide +kernel
theorem d_Law_law_319 : decode code 319 = .ok (.ireturn, 1) := by decide +kernel
theorem d_Law_law_320 : decode code 320 = .ok (.iload 5, 2) := by decide +kernel
theorem d_Law_law_322 : decode code 322 = .ok (.ifCond .ne 15, 3) := by decide +kernel
theorem d_Law_law_325 : decode code 325 = .ok (.aload_n 3, 1) := by decide +kernel
theorem d_Law_law_326 : decode code 326 = .ok (.iconst 0, 1) := by decide +kernel
theorem d_Law_law_327 : decode code 327 = .ok (.laload, 1) := by decide +kernel
theorem d_Law_law_328 : decode code 328 = .ok (.iload 6, 2) := by decide +kernel
theorem d_Law_law_330 : decode code 330 = .ok (.i2l, 1) := by decide +kernel
theorem d_Law_law_331 : decode code 331 = .ok (.lcmp, 1) := by decide +kernel
theorem d_Law_law_332 : decode code 332 = .ok (.ifCond .eq 5, 3) := by decide +kernel
theorem d_Law_law_335 : decode code 335 = .ok (.iconst 0, 1) := by decide +kernel
theorem d_Law_law_336 : decode code 336 = .ok (.ireturn, 1) := by decide +kernel
theorem d_Law_law_337 : decode code 337 = .ok (.goto 578, 3) := by decide +kernel
theorem d_Law_law_340 : decode code 340 = .ok (.aload_n 1, 1) := by decide +kernel
theorem d_Law_law_341 : decode code 341 = .ok (.aload_n 0, 1) := by decide +kernel
theorem d_Law_law_342 : decode code 342 = .ok (.iload 4, 2) := by decide +kernel
theorem d_Law_law_344 : decode code 344 = .ok (.iconst 1, 1) := by decide +kernel
theorem d_Law_law_345 : decode code 345 = .ok (.iadd, 1) := by decide +kernel
theorem d_Law_law_346 : decode code 346 = .ok (.iaload, 1) := by decide +kernel
theorem d_Law_law_347 : decode code 347 = .ok (.aload_n 3, 1) := by decide +kernel
theorem d_Law_law_348 : decode code 348 = .ok (.invokestatic 79, 3) := by decide +kernel
theorem d_Law_law_351 : decode code 351 = .ok (.istore 5, 2) := by decide +kernel
theorem d_Law_law_353 : decode code 353 = .ok (.aload_n 2, 1) := by decide +kernel
theorem d_Law_law_354 : decode code 354 = .ok (.aload_n 0, 1) := by decide +kernel
theorem d_Law_law_355 : decode code 355 = .ok (.iload 4, 2) := by decide +kernel
theorem d_Law_law_357 : decode code 357 = .ok (.iconst 1, 1) := by decide +kernel
theorem d_Law_law_358 : decode code 358 = .ok (.iadd, 1) := by decide +kernel
theorem d_Law_law_359 : decode code 359 = .ok (.iaload, 1) := by decide +kernel
theorem d_Law_law_360 : decode code 360 = .ok (.invokevirtual 82, 3) := by decide +kernel
theorem d_Law_law_363 : decode code 363 = .ok (.istore 6, 2) := by decide +kernel
theorem d_Law_law_365 : decode code 365 = .ok (.aload_n 2, 1) := by decide +kernel
theorem d_Law_law_366 : decode code 366 = .ok (.invokevirtual 71, 3) := by decide +kernel
theorem d_Law_law_369 : decode code 369 = .ok (.iload 5, 2) := by decide +kernel
theorem d_Law_law_371 : decode code 371 = .ok (.if_icmp .eq 5, 3) := by decide +kernel
theorem d_Law_law_374 : decode code 374 = .ok (.iconst 0, 1) := by decide +kernel
theorem d_Law_law_375 : decode code 375 = .ok (.ireturn, 1) := by decide +kernel
theorem d_Law_law_376 : decode code 376 = .ok (.iload 5, 2) := by decide +kernel
theorem d_Law_law_378 : decode code 378 = .ok (.ifCond .ne 15, 3) := by decide +kernel
theorem d_Law_law_381 : decode code 381 = .ok (.aload_n 3, 1) := by decide +kernel
theorem d_Law_law_382 : decode code 382 = .ok (.iconst 0, 1) := by decide +kernel
theorem d_Law_law_383 : decode code 383 = .ok (.laload, 1) := by decide +kernel
theorem d_Law_law_384 : decode code 384 = .ok (.iload 6, 2) := by decide +kernel
theorem d_Law_law_386 : decode code 386 = .ok (.i2l, 1) := by decide +kernel
theorem d_Law_law_387 : decode code 387 = .ok (.lcmp, 1) := by decide +kernel
theorem d_Law_law_388 : decode code 388 = .ok (.ifCond .eq 5, 3) := by decide +kernel
theorem d_Law_law_391 : decode code 391 = .ok (.iconst 0, 1) := by decide +kernel
theorem d_Law_law_392 : decode code 392 = .ok (.ireturn, 1) := by decide +kernel
theorem d_Law_law_393 : decode code 393 = .ok (.goto 522, 3) := by decide +kernel
theorem d_Law_law_396 : decode code 396 = .ok (.aload_n 1, 1) := by decide +kernel
theorem d_Law_law_397 : decode code 397 = .ok (.aload_n 0, 1) := by decide +kernel
theorem d_Law_law_398 : decode code 398 = .ok (.iload 4, 2) := by decide +kernel
theorem d_Law_law_400 : decode code 400 = .ok (.iconst 1, 1) := by decide +kernel
theorem d_Law_law_401 : decode code 401 = .ok (.iadd, 1) := by decide +kernel
theorem d_Law_law_402 : decode code 402 = .ok (.iaload, 1) := by decide +kernel
theorem d_Law_law_403 : decode code 403 = .ok (.aload_n 0, 1) := by decide +kernel
theorem d_Law_law_404 : decode code 404 = .ok (.iload 4, 2) := by decide +kernel
theorem d_Law_law_406 : decode code 406 = .ok (.iconst 2, 1) := by decide +kernel
theorem d_Law_law_407 : decode code 407 = .ok (.iadd, 1) := by decide +kernel
theorem d_Law_law_408 : decode code 408 = .ok (.iaload, 1) := by decide +kernel
theorem d_Law_law_409 : decode code 409 = .ok (.aload_n 0, 1) := by decide +kernel
theorem d_Law_law_410 : decode code 410 = .ok (.iload 4, 2) := by decide +kernel
theorem d_Law_law_412 : decode code 412 = .ok (.iconst 3, 1) := by decide +kernel
theorem d_Law_law_413 : decode code 413 = .ok (.iadd, 1) := by decide +kernel
theorem d_Law_law_414 : decode code 414 = .ok (.iaload, 1) := by decide +kernel
theorem d_Law_law_415 : decode code 415 = .ok (.aload_n 0, 1) := by decide +kernel
theorem d_Law_law_416 : decode code 416 = .ok (.iload 4, 2) := by decide +kernel
theorem d_Law_law_418 : decode code 418 = .ok (.iconst 4, 1) := by decide +kernel
theorem d_Law_law_419 : decode code 419 = .ok (.iadd, 1) := by decide +kernel
theorem d_Law_law_420 : decode code 420 = .ok (.iaload, 1) := by decide +kernel
theorem d_Law_law_421 : decode code 421 = .ok (.aload_n 3, 1) := by decide +kernel
theorem d_Law_law_422 : decode code 422 = .ok (.invokestatic 83, 3) := by decide +kernel
theorem d_Law_law_425 : decode code 425 = .ok (.istore 5, 2) := by decide +kernel
theorem d_Law_law_427 : decode code 427 = .ok (.aload_n 2, 1) := by decide +kernel
theorem d_Law_law_428 : decode code 428 = .ok (.aload_n 0, 1) := by decide +kernel
theorem d_Law_law_429 : decode code 429 = .ok (.iload 4, 2) := by decide +kernel
theorem d_Law_law_431 : decode code 431 = .ok (.iconst 1, 1) := by decide +kernel
theorem d_Law_law_432 : decode code 432 = .ok (.iadd, 1) := by decide +kernel
theorem d_Law_law_433 : decode code 433 = .ok (.iaload, 1) := by decide +kernel
theorem d_Law_law_434 : decode code 434 = .ok (.aload_n 0, 1) := by decide +kernel
theorem d_Law_law_435 : decode code 435 = .ok (.iload 4, 2) := by decide +kernel
theorem d_Law_law_437 : decode code 437 = .ok (.iconst 2, 1) := by decide +kernel
theorem d_Law_law_438 : decode code 438 = .ok (.iadd, 1) := by decide +kernel
theorem d_Law_law_439 : decode code 439 = .ok (.iaload, 1) := by decide +kernel
theorem d_Law_law_440 : decode code 440 = .ok (.aload_n 0, 1) := by decide +kernel
theorem d_Law_law_441 : decode code 441 = .ok (.iload 4, 2) := by decide +kernel
theorem d_Law_law_443 : decode code 443 = .ok (.iconst 3, 1) := by decide +kernel
theorem d_Law_law_444 : decode code 444 = .ok (.iadd, 1) := by decide +kernel
theorem d_Law_law_445 : decode code 445 = .ok (.iaload, 1) := by decide +kernel
theorem d_Law_law_446 : decode code 446 = .ok (.aload_n 0, 1) := by decide +kernel
theorem d_Law_law_447 : decode code 447 = .ok (.iload 4, 2) := by decide +kernel
theorem d_Law_law_449 : decode code 449 = .ok (.iconst 4, 1) := by decide +kernel
theorem d_Law_law_450 : decode code 450 = .ok (.iadd, 1) := by decide +kernel
theorem d_Law_law_451 : decode code 451 = .ok (.iaload, 1) := by decide +kernel
theorem d_Law_law_452 : decode code 452 = .ok (.invokevirtual 85, 3) := by decide +kernel
theorem d_Law_law_455 : decode code 455 = .ok (.istore 6, 2) := by decide +kernel
theorem d_Law_law_457 : decode code 457 = .ok (.aload_n 2, 1) := by decide +kernel
theorem d_Law_law_458 : decode code 458 = .ok (.invokevirtual 71, 3) := by decide +kernel
theorem d_Law_law_461 : decode code 461 = .ok (.iload 5, 2) := by decide +kernel
theorem d_Law_law_463 : decode code 463 = .ok (.if_icmp .eq 5, 3) := by decide +kernel
theorem d_Law_law_466 : decode code 466 = .ok (.iconst 0, 1) := by decide +kernel
theorem d_Law_law_467 : decode code 467 = .ok (.ireturn, 1) := by decide +kernel
theorem d_Law_law_468 : decode code 468 = .ok (.iload 5, 2) := by decide +kernel
theorem d_Law_law_470 : decode code 470 = .ok (.ifCond .ne 15, 3) := by decide +kernel
theorem d_Law_law_473 : decode code 473 = .ok (.aload_n 3, 1) := by decide +kernel
theorem d_Law_law_474 : decode code 474 = .ok (.iconst 0, 1) := by decide +kernel
theorem d_Law_law_475 : decode code 475 = .ok (.laload, 1) := by decide +kernel
theorem d_Law_law_476 : decode code 476 = .ok (.iload 6, 2) := by decide +kernel
theorem d_Law_law_478 : decode code 478 = .ok (.i2l, 1) := by decide +kernel
theorem d_Law_law_479 : decode code 479 = .ok (.lcmp, 1) := by decide +kernel
theorem d_Law_law_480 : decode code 480 = .ok (.ifCond .eq 5, 3) := by decide +kernel
theorem d_Law_law_483 : decode code 483 = .ok (.iconst 0, 1) := by decide +kernel
theorem d_Law_law_484 : decode code 484 = .ok (.ireturn, 1) := by decide +kernel
theorem d_Law_law_485 : decode code 485 = .ok (.goto 430, 3) := by decide +kernel
theorem d_Law_law_488 : decode code 488 = .ok (.aload_n 1, 1) := by decide +kernel
theorem d_Law_law_489 : decode code 489 = .ok (.aload_n 0, 1) := by decide +kernel
theorem d_Law_law_490 : decode code 490 = .ok (.iload 4, 2) := by decide +kernel
theorem d_Law_law_492 : decode code 492 = .ok (.iconst 1, 1) := by decide +kernel
theorem d_Law_law_493 : decode code 493 = .ok (.iadd, 1) := by decide +kernel
theorem d_Law_law_494 : decode code 494 = .ok (.iaload, 1) := by decide +kernel
theorem d_Law_law_495 : decode code 495 = .ok (.aload_n 3, 1) := by decide +kernel
theorem d_Law_law_496 : decode code 496 = .ok (.invokestatic 86, 3) := by decide +kernel
theorem d_Law_law_499 : decode code 499 = .ok (.istore 5, 2) := by decide +kernel
theorem d_Law_law_501 : decode code 501 = .ok (.aload_n 2, 1) := by decide +kernel
theorem d_Law_law_502 : decode code 502 = .ok (.aload_n 0, 1) := by decide +kernel
theorem d_Law_law_503 : decode code 503 = .ok (.iload 4, 2) := by decide +kernel
theorem d_Law_law_505 : decode code 505 = .ok (.iconst 1, 1) := by decide +kernel
theorem d_Law_law_506 : decode code 506 = .ok (.iadd, 1) := by decide +kernel
theorem d_Law_law_507 : decode code 507 = .ok (.iaload, 1) := by decide +kernel
theorem d_Law_law_508 : decode code 508 = .ok (.invokevirtual 88, 3) := by decide +kernel
theorem d_Law_law_511 : decode code 511 = .ok (.istore 6, 2) := by decide +kernel
theorem d_Law_law_513 : decode code 513 = .ok (.aload_n 2, 1) := by decide +kernel
theorem d_Law_law_514 : decode code 514 = .ok (.invokevirtual 71, 3) := by decide +kernel
theorem d_Law_law_517 : decode code 517 = .ok (.iload 5, 2) := by decide +kernel
theorem d_Law_law_519 : decode code 519 = .ok (.if_icmp .eq 5, 3) := by decide +kernel
theorem d_Law_law_522 : decode code 522 = .ok (.iconst 0, 1) := by decide +kernel
theorem d_Law_law_523 : decode code 523 = .ok (.ireturn, 1) := by decide +kernel
theorem d_Law_law_524 : decode code 524 = .ok (.iload 5, 2) := by decide +kernel
theorem d_Law_law_526 : decode code 526 = .ok (.ifCond .ne 15, 3) := by decide +kernel
theorem d_Law_law_529 : decode code 529 = .ok (.aload_n 3, 1) := by decide +kernel
theorem d_Law_law_530 : decode code 530 = .ok (.iconst 0, 1) := by decide +kernel
theorem d_Law_law_531 : decode code 531 = .ok (.laload, 1) := by decide +kernel
theorem d_Law_law_532 : decode code 532 = .ok (.iload 6, 2) := by decide +kernel
theorem d_Law_law_534 : decode code 534 = .ok (.i2l, 1) := by decide +kernel
theorem d_Law_law_535 : decode code 535 = .ok (.lcmp, 1) := by decide +kernel
theorem d_Law_law_536 : decode code 536 = .ok (.ifCond .eq 5, 3) := by decide +kernel
theorem d_Law_law_539 : decode code 539 = .ok (.iconst 0, 1) := by decide +kernel
theorem d_Law_law_540 : decode code 540 = .ok (.ireturn, 1) := by decide +kernel
theorem d_Law_law_541 : decode code 541 = .ok (.goto 374, 3) := by decide +kernel
theorem d_Law_law_544 : decode code 544 = .ok (.aload_n 1, 1) := by decide +kernel
theorem d_Law_law_545 : decode code 545 = .ok (.aload_n 0, 1) := by decide +kernel
theorem d_Law_law_546 : decode code 546 = .ok (.iload 4, 2) := by decide +kernel
theorem d_Law_law_548 : decode code 548 = .ok (.iconst 1, 1) := by decide +kernel
theorem d_Law_law_549 : decode code 549 = .ok (.iadd, 1) := by decide +kernel
theorem d_Law_law_550 : decode code 550 = .ok (.iaload, 1) := by decide +kernel
theorem d_Law_law_551 : decode code 551 = .ok (.aload_n 0, 1) := by decide +kernel
theorem d_Law_law_552 : decode code 552 = .ok (.iload 4, 2) := by decide +kernel
theorem d_Law_law_554 : decode code 554 = .ok (.iconst 2, 1) := by decide +kernel
theorem d_Law_law_555 : decode code 555 = .ok (.iadd, 1) := by decide +kernel
theorem d_Law_law_556 : decode code 556 = .ok (.iaload, 1) := by decide +kernel
theorem d_Law_law_557 : decode code 557 = .ok (.i2l, 1) := by decide +kernel
theorem d_Law_law_558 : decode code 558 = .ok (.bipush 32, 2) := by decide +kernel
theorem d_Law_law_560 : decode code 560 = .ok (.lshl, 1) := by decide +kernel
theorem d_Law_law_561 : decode code 561 = .ok (.aload_n 0, 1) := by decide +kernel
theorem d_Law_law_562 : decode code 562 = .ok (.iload 4, 2) := by decide +kernel
theorem d_Law_law_564 : decode code 564 = .ok (.iconst 3, 1) := by decide +kernel
theorem d_Law_law_565 : decode code 565 = .ok (.iadd, 1) := by decide +kernel
theorem d_Law_law_566 : decode code 566 = .ok (.iaload, 1) := by decide +kernel
theorem d_Law_law_567 : decode code 567 = .ok (.i2l, 1) := by decide +kernel
theorem d_Law_law_568 : decode code 568 = .ok (.ldc2_w 65, 3) := by decide +kernel
theorem d_Law_law_571 : decode code 571 = .ok (.land, 1) := by decide +kernel
theorem d_Law_law_572 : decode code 572 = .ok (.lor, 1) := by decide +kernel
theorem d_Law_law_573 : decode code 573 = .ok (.aload_n 3, 1) := by decide +kernel
theorem d_Law_law_574 : decode code 574 = .ok (.invokestatic 89, 3) := by decide +kernel
theorem d_Law_law_577 : decode code 577 = .ok (.istore 5, 2) := by decide +kernel
theorem d_Law_law_579 : decode code 579 = .ok (.aload_n 2, 1) := by decide +kernel
theorem d_Law_law_580 : decode code 580 = .ok (.aload_n 0, 1) := by decide +kernel
theorem d_Law_law_581 : decode code 581 = .ok (.iload 4, 2) := by decide +kernel
theorem d_Law_law_583 : decode code 583 = .ok (.iconst 1, 1) := by decide +kernel
theorem d_Law_law_584 : decode code 584 = .ok (.iadd, 1) := by decide +kernel
theorem d_Law_law_585 : decode code 585 = .ok (.iaload, 1) := by decide +kernel
theorem d_Law_law_586 : decode code 586 = .ok (.aload_n 0, 1) := by decide +kernel
theorem d_Law_law_587 : decode code 587 = .ok (.iload 4, 2) := by decide +kernel
theorem d_Law_law_589 : decode code 589 = .ok (.iconst 2, 1) := by decide +kernel
theorem d_Law_law_590 : decode code 590 = .ok (.iadd, 1) := by decide +kernel
theorem d_Law_law_591 : decode code 591 = .ok (.iaload, 1) := by decide +kernel
theorem d_Law_law_592 : decode code 592 = .ok (.i2l, 1) := by decide +kernel
theorem d_Law_law_593 : decode code 593 = .ok (.bipush 32, 2) := by decide +kernel
theorem d_Law_law_595 : decode code 595 = .ok (.lshl, 1) := by decide +kernel
theorem d_Law_law_596 : decode code 596 = .ok (.aload_n 0, 1) := by decide +kernel
theorem d_Law_law_597 : decode code 597 = .ok (.iload 4, 2) := by decide +kernel
theorem d_Law_law_599 : decode code 599 = .ok (.iconst 3, 1) := by decide +kernel
theorem d_Law_law_600 : decode code 600 = .ok (.iadd, 1) := by decide +kernel
theorem d_Law_law_601 : decode code 601 = .ok (.iaload, 1) := by decide +kernel
theorem d_Law_law_602 : decode code 602 = .ok (.i2l, 1) := by decide +kernel
theorem d_Law_law_603 : decode code 603 = .ok (.ldc2_w 65, 3) := by decide +kernel
theorem d_Law_law_606 : decode code 606 = .ok (.land, 1) := by decide +kernel
theorem d_Law_law_607 : decode code 607 = .ok (.lor, 1) := by decide +kernel
theorem d_Law_law_608 : decode code 608 = .ok (.invokevirtual 92, 3) := by decide +kernel
theorem d_Law_law_611 : decode code 611 = .ok (.istore 6, 2) := by decide +kernel
theorem d_Law_law_613 : decode code 613 = .ok (.aload_n 2, 1) := by decide +kernel
theorem d_Law_law_614 : decode code 614 = .ok (.invokevirtual 71, 3) := by decide +kernel
theorem d_Law_law_617 : decode code 617 = .ok (.iload 5, 2) := by decide +kernel
theorem d_Law_law_619 : decode code 619 = .ok (.if_icmp .eq 5, 3) := by decide +kernel
theorem d_Law_law_622 : decode code 622 = .ok (.iconst 0, 1) := by decide +kernel
theorem d_Law_law_623 : decode code 623 = .ok (.ireturn, 1) := by decide +kernel
theorem d_Law_law_624 : decode code 624 = .ok (.iload 5, 2) := by decide +kernel
theorem d_Law_law_626 : decode code 626 = .ok (.ifCond .ne 15, 3) := by decide +kernel
theorem d_Law_law_629 : decode code 629 = .ok (.aload_n 3, 1) := by decide +kernel
theorem d_Law_law_630 : decode code 630 = .ok (.iconst 0, 1) := by decide +kernel
theorem d_Law_law_631 : decode code 631 = .ok (.laload, 1) := by decide +kernel
theorem d_Law_law_632 : decode code 632 = .ok (.iload 6, 2) := by decide +kernel
theorem d_Law_law_634 : decode code 634 = .ok (.i2l, 1) := by decide +kernel
theorem d_Law_law_635 : decode code 635 = .ok (.lcmp, 1) := by decide +kernel
theorem d_Law_law_636 : decode code 636 = .ok (.ifCond .eq 5, 3) := by decide +kernel
theorem d_Law_law_639 : decode code 639 = .ok (.iconst 0, 1) := by decide +kernel
theorem d_Law_law_640 : decode code 640 = .ok (.ireturn, 1) := by decide +kernel
theorem d_Law_law_641 : decode code 641 = .ok (.goto 274, 3) := by decide +kernel
theorem d_Law_law_644 : decode code 644 = .ok (.aload_n 1, 1) := by decide +kernel
theorem d_Law_law_645 : decode code 645 = .ok (.aload_n 0, 1) := by decide +kernel
theorem d_Law_law_646 : decode code 646 = .ok (.iload 4, 2) := by decide +kernel
theorem d_Law_law_648 : decode code 648 = .ok (.iconst 1, 1) := by decide +kernel
theorem d_Law_law_649 : decode code 649 = .ok (.iadd, 1) := by decide +kernel
theorem d_Law_law_650 : decode code 650 = .ok (.iaload, 1) := by decide +kernel
theorem d_Law_law_651 : decode code 651 = .ok (.aload_n 3, 1) := by decide +kernel
theorem d_Law_law_652 : decode code 652 = .ok (.invokestatic 93, 3) := by decide +kernel
theorem d_Law_law_655 : decode code 655 = .ok (.istore 5, 2) := by decide +kernel
theorem d_Law_law_657 : decode code 657 = .ok (.aload_n 2, 1) := by decide +kernel
theorem d_Law_law_658 : decode code 658 = .ok (.aload_n 0, 1) := by decide +kernel
theorem d_Law_law_659 : decode code 659 = .ok (.iload 4, 2) := by decide +kernel
theorem d_Law_law_661 : decode code 661 = .ok (.iconst 1, 1) := by decide +kernel
theorem d_Law_law_662 : decode code 662 = .ok (.iadd, 1) := by decide +kernel
theorem d_Law_law_663 : decode code 663 = .ok (.iaload, 1) := by decide +kernel
theorem d_Law_law_664 : decode code 664 = .ok (.invokevirtual 95, 3) := by decide +kernel
theorem d_Law_law_667 : decode code 667 = .ok (.lstore 6, 2) := by decide +kernel
theorem d_Law_law_669 : decode code 669 = .ok (.aload_n 2, 1) := by decide +kernel
theorem d_Law_law_670 : decode code 670 = .ok (.invokevirtual 71, 3) := by decide +kernel
theorem d_Law_law_673 : decode code 673 = .ok (.iload 5, 2) := by decide +kernel
theorem d_Law_law_675 : decode code 675 = .ok (.if_icmp .eq 5, 3) := by decide +kernel
theorem d_Law_law_678 : decode code 678 = .ok (.iconst 0, 1) := by decide +kernel
theorem d_Law_law_679 : decode code 679 = .ok (.ireturn, 1) := by decide +kernel
theorem d_Law_law_680 : decode code 680 = .ok (.iload 5, 2) := by decide +kernel
theorem d_Law_law_682 : decode code 682 = .ok (.ifCond .ne 14, 3) := by decide +kernel
theorem d_Law_law_685 : decode code 685 = .ok (.aload_n 3, 1) := by decide +kernel
theorem d_Law_law_686 : decode code 686 = .ok (.iconst 0, 1) := by decide +kernel
theorem d_Law_law_687 : decode code 687 = .ok (.laload, 1) := by decide +kernel
theorem d_Law_law_688 : decode code 688 = .ok (.lload 6, 2) := by decide +kernel
theorem d_Law_law_690 : decode code 690 = .ok (.lcmp, 1) := by decide +kernel
theorem d_Law_law_691 : decode code 691 = .ok (.ifCond .eq 5, 3) := by decide +kernel
theorem d_Law_law_694 : decode code 694 = .ok (.iconst 0, 1) := by decide +kernel
theorem d_Law_law_695 : decode code 695 = .ok (.ireturn, 1) := by decide +kernel
theorem d_Law_law_696 : decode code 696 = .ok (.goto 219, 3) := by decide +kernel
theorem d_Law_law_699 : decode code 699 = .ok (.aload_n 1, 1) := by decide +kernel
theorem d_Law_law_700 : decode code 700 = .ok (.aload_n 0, 1) := by decide +kernel
theorem d_Law_law_701 : decode code 701 = .ok (.iload 4, 2) := by decide +kernel
theorem d_Law_law_703 : decode code 703 = .ok (.iconst 1, 1) := by decide +kernel
theorem d_Law_law_704 : decode code 704 = .ok (.iadd, 1) := by decide +kernel
theorem d_Law_law_705 : decode code 705 = .ok (.iaload, 1) := by decide +kernel
theorem d_Law_law_706 : decode code 706 = .ok (.aload_n 3, 1) := by decide +kernel
theorem d_Law_law_707 : decode code 707 = .ok (.invokestatic 96, 3) := by decide +kernel
theorem d_Law_law_710 : decode code 710 = .ok (.istore 5, 2) := by decide +kernel
theorem d_Law_law_712 : decode code 712 = .ok (.aload_n 2, 1) := by decide +kernel
theorem d_Law_law_713 : decode code 713 = .ok (.aload_n 0, 1) := by decide +kernel
theorem d_Law_law_714 : decode code 714 = .ok (.iload 4, 2) := by decide +kernel
theorem d_Law_law_716 : decode code 716 = .ok (.iconst 1, 1) := by decide +kernel
theorem d_Law_law_717 : decode code 717 = .ok (.iadd, 1) := by decide +kernel
theorem d_Law_law_718 : decode code 718 = .ok (.iaload, 1) := by decide +kernel
theorem d_Law_law_719 : decode code 719 = .ok (.invokevirtual 98, 3) := by decide +kernel
theorem d_Law_law_722 : decode code 722 = .ok (.istore 6, 2) := by decide +kernel
theorem d_Law_law_724 : decode code 724 = .ok (.aload_n 2, 1) := by decide +kernel
theorem d_Law_law_725 : decode code 725 = .ok (.invokevirtual 71, 3) := by decide +kernel
theorem d_Law_law_728 : decode code 728 = .ok (.iload 5, 2) := by decide +kernel
theorem d_Law_law_730 : decode code 730 = .ok (.if_icmp .eq 5, 3) := by decide +kernel
theorem d_Law_law_733 : decode code 733 = .ok (.iconst 0, 1) := by decide +kernel
theorem d_Law_law_734 : decode code 734 = .ok (.ireturn, 1) := by decide +kernel
theorem d_Law_law_735 : decode code 735 = .ok (.iload 5, 2) := by decide +kernel
theorem d_Law_law_737 : decode code 737 = .ok (.ifCond .ne 15, 3) := by decide +kernel
theorem d_Law_law_740 : decode code 740 = .ok (.aload_n 3, 1) := by decide +kernel
theorem d_Law_law_741 : decode code 741 = .ok (.iconst 0, 1) := by decide +kernel
theorem d_Law_law_742 : decode code 742 = .ok (.laload, 1) := by decide +kernel
theorem d_Law_law_743 : decode code 743 = .ok (.iload 6, 2) := by decide +kernel
theorem d_Law_law_745 : decode code 745 = .ok (.i2l, 1) := by decide +kernel
theorem d_Law_law_746 : decode code 746 = .ok (.lcmp, 1) := by decide +kernel
theorem d_Law_law_747 : decode code 747 = .ok (.ifCond .eq 5, 3) := by decide +kernel
theorem d_Law_law_750 : decode code 750 = .ok (.iconst 0, 1) := by decide +kernel
theorem d_Law_law_751 : decode code 751 = .ok (.ireturn, 1) := by decide +kernel
theorem d_Law_law_752 : decode code 752 = .ok (.goto 163, 3) := by decide +kernel
theorem d_Law_law_755 : decode code 755 = .ok (.aload_n 1, 1) := by decide +kernel
theorem d_Law_law_756 : decode code 756 = .ok (.aload_n 0, 1) := by decide +kernel
theorem d_Law_law_757 : decode code 757 = .ok (.iload 4, 2) := by decide +kernel
theorem d_Law_law_759 : decode code 759 = .ok (.iconst 1, 1) := by decide +kernel
theorem d_Law_law_760 : decode code 760 = .ok (.iadd, 1) := by decide +kernel
theorem d_Law_law_761 : decode code 761 = .ok (.iaload, 1) := by decide +kernel
theorem d_Law_law_762 : decode code 762 = .ok (.aload_n 3, 1) := by decide +kernel
theorem d_Law_law_763 : decode code 763 = .ok (.invokestatic 99, 3) := by decide +kernel
theorem d_Law_law_766 : decode code 766 = .ok (.istore 5, 2) := by decide +kernel
theorem d_Law_law_768 : decode code 768 = .ok (.aload_n 2, 1) := by decide +kernel
theorem d_Law_law_769 : decode code 769 = .ok (.aload_n 0, 1) := by decide +kernel
theorem d_Law_law_770 : decode code 770 = .ok (.iload 4, 2) := by decide +kernel
theorem d_Law_law_772 : decode code 772 = .ok (.iconst 1, 1) := by decide +kernel
theorem d_Law_law_773 : decode code 773 = .ok (.iadd, 1) := by decide +kernel
theorem d_Law_law_774 : decode code 774 = .ok (.iaload, 1) := by decide +kernel
theorem d_Law_law_775 : decode code 775 = .ok (.invokevirtual 101, 3) := by decide +kernel
theorem d_Law_law_778 : decode code 778 = .ok (.istore 6, 2) := by decide +kernel
theorem d_Law_law_780 : decode code 780 = .ok (.aload_n 2, 1) := by decide +kernel
theorem d_Law_law_781 : decode code 781 = .ok (.invokevirtual 71, 3) := by decide +kernel
theorem d_Law_law_784 : decode code 784 = .ok (.iload 5, 2) := by decide +kernel
theorem d_Law_law_786 : decode code 786 = .ok (.if_icmp .eq 5, 3) := by decide +kernel
theorem d_Law_law_789 : decode code 789 = .ok (.iconst 0, 1) := by decide +kernel
theorem d_Law_law_790 : decode code 790 = .ok (.ireturn, 1) := by decide +kernel
theorem d_Law_law_791 : decode code 791 = .ok (.iload 5, 2) := by decide +kernel
theorem d_Law_law_793 : decode code 793 = .ok (.ifCond .ne 15, 3) := by decide +kernel
theorem d_Law_law_796 : decode code 796 = .ok (.aload_n 3, 1) := by decide +kernel
theorem d_Law_law_797 : decode code 797 = .ok (.iconst 0, 1) := by decide +kernel
theorem d_Law_law_798 : decode code 798 = .ok (.laload, 1) := by decide +kernel
theorem d_Law_law_799 : decode code 799 = .ok (.iload 6, 2) := by decide +kernel
theorem d_Law_law_801 : decode code 801 = .ok (.i2l, 1) := by decide +kernel
theorem d_Law_law_802 : decode code 802 = .ok (.lcmp, 1) := by decide +kernel
theorem d_Law_law_803 : decode code 803 = .ok (.ifCond .eq 5, 3) := by decide +kernel
theorem d_Law_law_806 : decode code 806 = .ok (.iconst 0, 1) := by decide +kernel
theorem d_Law_law_807 : decode code 807 = .ok (.ireturn, 1) := by decide +kernel
theorem d_Law_law_808 : decode code 808 = .ok (.goto 107, 3) := by decide +kernel
theorem d_Law_law_811 : decode code 811 = .ok (.aload_n 1, 1) := by decide +kernel
theorem d_Law_law_812 : decode code 812 = .ok (.aload_n 0, 1) := by decide +kernel
theorem d_Law_law_813 : decode code 813 = .ok (.iload 4, 2) := by decide +kernel
theorem d_Law_law_815 : decode code 815 = .ok (.iconst 1, 1) := by decide +kernel
theorem d_Law_law_816 : decode code 816 = .ok (.iadd, 1) := by decide +kernel
theorem d_Law_law_817 : decode code 817 = .ok (.iaload, 1) := by decide +kernel
theorem d_Law_law_818 : decode code 818 = .ok (.aload_n 0, 1) := by decide +kernel
theorem d_Law_law_819 : decode code 819 = .ok (.iload 4, 2) := by decide +kernel
theorem d_Law_law_821 : decode code 821 = .ok (.iconst 2, 1) := by decide +kernel
theorem d_Law_law_822 : decode code 822 = .ok (.iadd, 1) := by decide +kernel
theorem d_Law_law_823 : decode code 823 = .ok (.iaload, 1) := by decide +kernel
theorem d_Law_law_824 : decode code 824 = .ok (.aload_n 3, 1) := by decide +kernel
theorem d_Law_law_825 : decode code 825 = .ok (.invokestatic 102, 3) := by decide +kernel
theorem d_Law_law_828 : decode code 828 = .ok (.istore 5, 2) := by decide +kernel
theorem d_Law_law_830 : decode code 830 = .ok (.aload_n 2, 1) := by decide +kernel
theorem d_Law_law_831 : decode code 831 = .ok (.aload_n 0, 1) := by decide +kernel
theorem d_Law_law_832 : decode code 832 = .ok (.iload 4, 2) := by decide +kernel
theorem d_Law_law_834 : decode code 834 = .ok (.iconst 1, 1) := by decide +kernel
theorem d_Law_law_835 : decode code 835 = .ok (.iadd, 1) := by decide +kernel
theorem d_Law_law_836 : decode code 836 = .ok (.iaload, 1) := by decide +kernel
theorem d_Law_law_837 : decode code 837 = .ok (.aload_n 0, 1) := by decide +kernel
theorem d_Law_law_838 : decode code 838 = .ok (.iload 4, 2) := by decide +kernel
theorem d_Law_law_840 : decode code 840 = .ok (.iconst 2, 1) := by decide +kernel
theorem d_Law_law_841 : decode code 841 = .ok (.iadd, 1) := by decide +kernel
theorem d_Law_law_842 : decode code 842 = .ok (.iaload, 1) := by decide +kernel
theorem d_Law_law_843 : decode code 843 = .ok (.invokevirtual 105, 3) := by decide +kernel
theorem d_Law_law_846 : decode code 846 = .ok (.istore 6, 2) := by decide +kernel
theorem d_Law_law_848 : decode code 848 = .ok (.aload_n 2, 1) := by decide +kernel
theorem d_Law_law_849 : decode code 849 = .ok (.invokevirtual 71, 3) := by decide +kernel
theorem d_Law_law_852 : decode code 852 = .ok (.iload 5, 2) := by decide +kernel
theorem d_Law_law_854 : decode code 854 = .ok (.if_icmp .eq 5, 3) := by decide +kernel
theorem d_Law_law_857 : decode code 857 = .ok (.iconst 0, 1) := by decide +kernel
theorem d_Law_law_858 : decode code 858 = .ok (.ireturn, 1) := by decide +kernel
theorem d_Law_law_859 : decode code 859 = .ok (.iload 5, 2) := by decide +kernel
theorem d_Law_law_861 : decode code 861 = .ok (.ifCond .ne 15, 3) := by decide +kernel
theorem d_Law_law_864 : decode code 864 = .ok (.aload_n 3, 1) := by decide +kernel
theorem d_Law_law_865 : decode code 865 = .ok (.iconst 0, 1) := by decide +kernel
theorem d_Law_law_866 : decode code 866 = .ok (.laload, 1) := by decide +kernel
theorem d_Law_law_867 : decode code 867 = .ok (.iload 6, 2) := by decide +kernel
theorem d_Law_law_869 : decode code 869 = .ok (.i2l, 1) := by decide +kernel
theorem d_Law_law_870 : decode code 870 = .ok (.lcmp, 1) := by decide +kernel
theorem d_Law_law_871 : decode code 871 = .ok (.ifCond .eq 5, 3) := by decide +kernel
theorem d_Law_law_874 : decode code 874 = .ok (.iconst 0, 1) := by decide +kernel
theorem d_Law_law_875 : decode code 875 = .ok (.ireturn, 1) := by decide +kernel
theorem d_Law_law_876 : decode code 876 = .ok (.goto 39, 3) := by decide +kernel
theorem d_Law_law_879 : decode code 879 = .ok (.aload_n 1, 1) := by decide +kernel
theorem d_Law_law_880 : decode code 880 = .ok (.aload_n 0, 1) := by decide +kernel
theorem d_Law_law_881 : decode code 881 = .ok (.iload 4, 2) := by decide +kernel
theorem d_Law_law_883 : decode code 883 = .ok (.iconst 1, 1) := by decide +kernel
theorem d_Law_law_884 : decode code 884 = .ok (.iadd, 1) := by decide +kernel
theorem d_Law_law_885 : decode code 885 = .ok (.iaload, 1) := by decide +kernel
theorem d_Law_law_886 : decode code 886 = .ok (.invokevirtual 106, 3) := by decide +kernel
theorem d_Law_law_889 : decode code 889 = .ok (.aload_n 2, 1) := by decide +kernel
theorem d_Law_law_890 : decode code 890 = .ok (.aload_n 0, 1) := by decide +kernel
theorem d_Law_law_891 : decode code 891 = .ok (.iload 4, 2) := by decide +kernel
theorem d_Law_law_893 : decode code 893 = .ok (.iconst 1, 1) := by decide +kernel
theorem d_Law_law_894 : decode code 894 = .ok (.iadd, 1) := by decide +kernel
theorem d_Law_law_895 : decode code 895 = .ok (.iaload, 1) := by decide +kernel
theorem d_Law_law_896 : decode code 896 = .ok (.invokevirtual 109, 3) := by decide +kernel
theorem d_Law_law_899 : decode code 899 = .ok (.if_icmp .eq 16, 3) := by decide +kernel
theorem d_Law_law_902 : decode code 902 = .ok (.iconst 0, 1) := by decide +kernel
theorem d_Law_law_903 : decode code 903 = .ok (.ireturn, 1) := by decide +kernel
theorem d_Law_law_904 : decode code 904 = .ok (.aload_n 1, 1) := by decide +kernel
theorem d_Law_law_905 : decode code 905 = .ok (.invokevirtual 110, 3) := by decide +kernel
theorem d_Law_law_908 : decode code 908 = .ok (.aload_n 2, 1) := by decide +kernel
theorem d_Law_law_909 : decode code 909 = .ok (.invokevirtual 113, 3) := by decide +kernel
theorem d_Law_law_912 : decode code 912 = .ok (.goto 3, 3) := by decide +kernel
theorem d_Law_law_915 : decode code 915 = .ok (.iinc 4 6, 3) := by decide +kernel
theorem d_Law_law_918 : decode code 918 = .ok (.goto (-875), 3) := by decide +kernel
theorem d_Law_law_921 : decode code 921 = .ok (.iconst 1, 1) := by decide +kernel
theorem d_Law_law_922 : decode code 922 = .ok (.ireturn, 1) := by decide +kernel
theorem mv_Law_70 : zw_MV R_Law 70 Y_Model_share R_Model 4 := ⟨Or.inl (zw_in (List.mem_of_getElem? (i := 731) (by decide +kernel)) (by decide +kernel)), (zw_in (List.mem_of_getElem? (i := 732) (by decide +kernel)) (by decide +kernel)), (zw_in (List.mem_of_getElem? (i := 733) (by decide +kernel)) (by decide +kernel)), (zw_in (List.mem_of_getElem? (i := 734) (by decide +kernel)) (by decide +kernel)), (zw_in (List.mem_of_getElem? (i := 33) (by decide +kernel)) (by decide +kernel)), by decide +kernel, by decide +kernel⟩
theorem mv_Law_71 : zw_MV R_Law 71 Y_Model_thrown R_Model 0 := ⟨Or.inl (zw_in (List.mem_of_getElem? (i := 727) (by decide +kernel)) (by decide +kernel)), (zw_in (List.mem_of_getElem? (i := 728) (by decide +kernel)) (by decide +kernel)), (zw_in (List.mem_of_getElem? (i := 729) (by decide +kernel)) (by decide +kernel)), (zw_in (List.mem_of_getElem? (i := 730) (by decide +kernel)) (by decide +kernel)), (zw_in (List.mem_of_getElem? (i := 33) (by decide +kernel)) (by decide +kernel)), by decide +kernel, by decide +kernel⟩
theorem mv_Law_78 : zw_MV R_Law 78 Y_Model_need R_Model 4 := ⟨Or.inl (zw_in (List.mem_of_getElem? (i := 742) (by decide +kernel)) (by decide +kernel)), (zw_in (List.mem_of_getElem? (i := 743) (by decide +kernel)) (by decide +kernel)), (zw_in (List.mem_of_getElem? (i := 744) (by decide +kernel)) (by decide +kernel)), (zw_in (List.mem_of_getElem? (i := 745) (by decide +kernel)) (by decide +kernel)), (zw_in (List.mem_of_getElem? (i := 33) (by decide +kernel)) (by decide +kernel)), by decide +kernel, by decide +kernel⟩
theorem mv_Law_82 : zw_MV R_Law 82 Y_Model_free R_Model 1 := ⟨Or.inl (zw_in (List.mem_of_getElem? (i := 746) (by decide +kernel)) (by decide +kernel)), (zw_in (List.mem_of_getElem? (i := 747) (by decide +kernel)) (by decide +kernel)), (zw_in (List.mem_of_getElem? (i := 748) (by decide +kernel)) (by decide +kernel)), (zw_in (List.mem_of_getElem? (i := 749) (by decide +kernel)) (by decide +kernel)), (zw_in (List.mem_of_getElem? (i := 33) (by decide +kernel)) (by decide +kernel)), by decide +kernel, by decide +kernel⟩
theorem mv_Law_85 : zw_MV R_Law 85 Y_Model_failing R_Model 4 := ⟨Or.inl (zw_in (List.mem_of_getElem? (i := 750) (by decide +kernel)) (by decide +kernel)), (zw_in (List.mem_of_getElem? (i := 751) (by decide +kernel)) (by decide +kernel)), (zw_in (List.mem_of_getElem? (i := 752) (by decide +kernel)) (by decide +kernel)), (zw_in (List.mem_of_getElem? (i := 753) (by decide +kernel)) (by decide +kernel)), (zw_in (List.mem_of_getElem? (i := 33) (by decide +kernel)) (by decide +kernel)), by decide +kernel, by decide +kernel⟩
theorem mv_Law_88 : zw_MV R_Law 88 Y_Model_stop R_Model 1 := ⟨Or.inl (zw_in (List.mem_of_getElem? (i := 754) (by decide +kernel)) (by decide +kernel)), (zw_in (List.mem_of_getElem? (i := 755) (by decide +kernel)) (by decide +kernel)), (zw_in (List.mem_of_getElem? (i := 756) (by decide +kernel)) (by decide +kernel)), (zw_in (List.mem_of_getElem? (i := 757) (by decide +kernel)) (by decide +kernel)), (zw_in (List.mem_of_getElem? (i := 33) (by decide +kernel)) (by decide +kernel)), by decide +kernel, by decide +kernel⟩
theorem mv_Law_92 : zw_MV R_Law 92 Y_Model_run R_Model 2 := ⟨Or.inl (zw_in (List.mem_of_getElem? (i := 758) (by decide +kernel)) (by decide +kernel)), (zw_in (List.mem_of_getElem? (i := 759) (by decide +kernel)) (by decide +kernel)), (zw_in (List.mem_of_getElem? (i := 760) (by decide +kernel)) (by decide +kernel)), (zw_in (List.mem_of_getElem? (i := 761) (by decide +kernel)) (by decide +kernel)), (zw_in (List.mem_of_getElem? (i := 33) (by decide +kernel)) (by decide +kernel)), by decide +kernel, by decide +kernel⟩
theorem mv_Law_95 : zw_MV R_Law 95 Y_Model_at R_Model 1 := ⟨Or.inl (zw_in (List.mem_of_getElem? (i := 804) (by decide +kernel)) (by decide +kernel)), (zw_in (List.mem_of_getElem? (i := 805) (by decide +kernel)) (by decide +kernel)), (zw_in (List.mem_of_getElem? (i := 806) (by decide +kernel)) (by decide +kernel)), (zw_in (List.mem_of_getElem? (i := 807) (by decide +kernel)) (by decide +kernel)), (zw_in (List.mem_of_getElem? (i := 33) (by decide +kernel)) (by decide +kernel)), by decide +kernel, by decide +kernel⟩
theorem mv_Law_98 : zw_MV R_Law 98 Y_Model_order R_Model 1 := ⟨Or.inl (zw_in (List.mem_of_getElem? (i := 808) (by decide +kernel)) (by decide +kernel)), (zw_in (List.mem_of_getElem? (i := 809) (by decide +kernel)) (by decide +kernel)), (zw_in (List.mem_of_getElem? (i := 810) (by decide +kernel)) (by decide +kernel)), (zw_in (List.mem_of_getElem? (i := 811) (by decide +kernel)) (by decide +kernel)), (zw_in (List.mem_of_getElem? (i := 33) (by decide +kernel)) (by decide +kernel)), by decide +kernel, by decide +kernel⟩
theorem mv_Law_101 : zw_MV R_Law 101 Y_Model_begun R_Model 1 := ⟨Or.inl (zw_in (List.mem_of_getElem? (i := 812) (by decide +kernel)) (by decide +kernel)), (zw_in (List.mem_of_getElem? (i := 813) (by decide +kernel)) (by decide +kernel)), (zw_in (List.mem_of_getElem? (i := 814) (by decide +kernel)) (by decide +kernel)), (zw_in (List.mem_of_getElem? (i := 815) (by decide +kernel)) (by decide +kernel)), (zw_in (List.mem_of_getElem? (i := 33) (by decide +kernel)) (by decide +kernel)), by decide +kernel, by decide +kernel⟩
theorem mv_Law_105 : zw_MV R_Law 105 Y_Model_waited R_Model 2 := ⟨Or.inl (zw_in (List.mem_of_getElem? (i := 816) (by decide +kernel)) (by decide +kernel)), (zw_in (List.mem_of_getElem? (i := 817) (by decide +kernel)) (by decide +kernel)), (zw_in (List.mem_of_getElem? (i := 818) (by decide +kernel)) (by decide +kernel)), (zw_in (List.mem_of_getElem? (i := 819) (by decide +kernel)) (by decide +kernel)), (zw_in (List.mem_of_getElem? (i := 33) (by decide +kernel)) (by decide +kernel)), by decide +kernel, by decide +kernel⟩
theorem mv_Law_106 : zw_MV R_Law 106 Y_TS_told R_TS 1 := ⟨Or.inl (zw_in (List.mem_of_getElem? (i := 277) (by decide +kernel)) (by decide +kernel)), (zw_in (List.mem_of_getElem? (i := 278) (by decide +kernel)) (by decide +kernel)), (zw_in (List.mem_of_getElem? (i := 279) (by decide +kernel)) (by decide +kernel)), (zw_in (List.mem_of_getElem? (i := 280) (by decide +kernel)) (by decide +kernel)), (zw_in (List.mem_of_getElem? (i := 25) (by decide +kernel)) (by decide +kernel)), by decide +kernel, by decide +kernel⟩
theorem mv_Law_109 : zw_MV R_Law 109 Y_Model_told R_Model 1 := ⟨Or.inl (zw_in (List.mem_of_getElem? (i := 820) (by decide +kernel)) (by decide +kernel)), (zw_in (List.mem_of_getElem? (i := 821) (by decide +kernel)) (by decide +kernel)), (zw_in (List.mem_of_getElem? (i := 822) (by decide +kernel)) (by decide +kernel)), (zw_in (List.mem_of_getElem? (i := 823) (by decide +kernel)) (by decide +kernel)), (zw_in (List.mem_of_getElem? (i := 33) (by decide +kernel)) (by decide +kernel)), by decide +kernel, by decide +kernel⟩
theorem mv_Law_110 : zw_MV R_Law 110 Y_TS_clear R_TS 0 := ⟨Or.inl (zw_in (List.mem_of_getElem? (i := 285) (by decide +kernel)) (by decide +kernel)), (zw_in (List.mem_of_getElem? (i := 286) (by decide +kernel)) (by decide +kernel)), (zw_in (List.mem_of_getElem? (i := 287) (by decide +kernel)) (by decide +kernel)), (zw_in (List.mem_of_getElem? (i := 288) (by decide +kernel)) (by decide +kernel)), (zw_in (List.mem_of_getElem? (i := 25) (by decide +kernel)) (by decide +kernel)), by decide +kernel, by decide +kernel⟩
theorem mv_Law_113 : zw_MV R_Law 113 Y_Model_clear R_Model 0 := ⟨Or.inl (zw_in (List.mem_of_getElem? (i := 824) (by decide +kernel)) (by decide +kernel)), (zw_in (List.mem_of_getElem? (i := 615) (by decide +kernel)) (by decide +kernel)), (zw_in (List.mem_of_getElem? (i := 616) (by decide +kernel)) (by decide +kernel)), (zw_in (List.mem_of_getElem? (i := 617) (by decide +kernel)) (by decide +kernel)), (zw_in (List.mem_of_getElem? (i := 33) (by decide +kernel)) (by decide +kernel)), by decide +kernel, by decide +kernel⟩
theorem ms_Law_67 : zh_MS R_Law 67 Y_Law_share [(0, 14, 17, 13), (0, 14, 21, 15)] 6 := ⟨(zw_in (List.mem_of_getElem? (i := 309) (by decide +kernel)) (by decide +kernel)), (zw_in (List.mem_of_getElem? (i := 310) (by decide +kernel)) (by decide +kernel)), (zw_in (List.mem_of_getElem? (i := 311) (by decide +kernel)) (by decide +kernel)), (zw_in (List.mem_of_getElem? (i := 24) (by decide +kernel)) (by decide +kernel)), by decide +kernel, by decide +kernel⟩
theorem ms_Law_75 : zh_MS R_Law 75 Y_Law_need [(0, 14, 17, 13), (0, 14, 21, 15), (0, 14, 25, 21)] 6 := ⟨(zw_in (List.mem_of_getElem? (i := 410) (by decide +kernel)) (by decide +kernel)), (zw_in (List.mem_of_getElem? (i := 411) (by decide +kernel)) (by decide +kernel)), (zw_in (List.mem_of_getElem? (i := 412) (by decide +kernel)) (by decide +kernel)), (zw_in (List.mem_of_getElem? (i := 24) (by decide +kernel)) (by decide +kernel)), by decide +kernel, by decide +kernel⟩
theorem ms_Law_79 : zh_MS R_Law 79 Y_Law_free [(0, 9, 12, 13)] 3 := ⟨(zw_in (List.mem_of_getElem? (i := 442) (by decide +kernel)) (by decide +kernel)), (zw_in (List.mem_of_getElem? (i := 443) (by decide +kernel)) (by decide +kernel)), (zw_in (List.mem_of_getElem? (i := 444) (by decide +kernel)) (by decide +kernel)), (zw_in (List.mem_of_getElem? (i := 24) (by decide +kernel)) (by decide +kernel)), by decide +kernel, by decide +kernel⟩
theorem ms_Law_83 : zh_MS R_Law 83 Y_Law_failing [(0, 14, 17, 13), (0, 14, 21, 15), (0, 14, 25, 21)] 6 := ⟨(zw_in (List.mem_of_getElem? (i := 449) (by decide +kernel)) (by decide +kernel)), (zw_in (List.mem_of_getElem? (i := 450) (by decide +kernel)) (by decide +kernel)), (zw_in (List.mem_of_getElem? (i := 451) (by decide +kernel)) (by decide +kernel)), (zw_in (List.mem_of_getElem? (i := 24) (by decide +kernel)) (by decide +kernel)), by decide +kernel, by decide +kernel⟩
theorem ms_Law_86 : zh_MS R_Law 86 Y_Law_stop [(0, 9, 12, 13)] 3 := ⟨(zw_in (List.mem_of_getElem? (i := 462) (by decide +kernel)) (by decide +kernel)), (zw_in (List.mem_of_getElem? (i := 463) (by decide +kernel)) (by decide +kernel)), (zw_in (List.mem_of_getElem? (i := 464) (by decide +kernel)) (by decide +kernel)), (zw_in (List.mem_of_getElem? (i := 24) (by decide +kernel)) (by decide +kernel)), by decide +kernel, by decide +kernel⟩
theorem ms_Law_89 : zh_MS R_Law 89 Y_Law_run [(0, 11, 14, 15)] 4 := ⟨(zw_in (List.mem_of_getElem? (i := 469) (by decide +kernel)) (by decide +kernel)), (zw_in (List.mem_of_getElem? (i := 470) (by decide +kernel)) (by decide +kernel)), (zw_in (List.mem_of_getElem? (i := 471) (by decide +kernel)) (by decide +kernel)), (zw_in (List.mem_of_getElem? (i := 24) (by decide +kernel)) (by decide +kernel)), by decide +kernel, by decide +kernel⟩
theorem ms_Law_93 : zh_MS R_Law 93 Y_Law_at [(0, 8, 11, 13), (0, 8, 14, 41)] 3 := ⟨(zw_in (List.mem_of_getElem? (i := 562) (by decide +kernel)) (by decide +kernel)), (zw_in (List.mem_of_getElem? (i := 563) (by decide +kernel)) (by decide +kernel)), (zw_in (List.mem_of_getElem? (i := 564) (by decide +kernel)) (by decide +kernel)), (zw_in (List.mem_of_getElem? (i := 24) (by decide +kernel)) (by decide +kernel)), by decide +kernel, by decide +kernel⟩
theorem ms_Law_96 : zh_MS R_Law 96 Y_Law_order [(0, 9, 12, 13)] 3 := ⟨(zw_in (List.mem_of_getElem? (i := 586) (by decide +kernel)) (by decide +kernel)), (zw_in (List.mem_of_getElem? (i := 587) (by decide +kernel)) (by decide +kernel)), (zw_in (List.mem_of_getElem? (i := 588) (by decide +kernel)) (by decide +kernel)), (zw_in (List.mem_of_getElem? (i := 24) (by decide +kernel)) (by decide +kernel)), by decide +kernel, by decide +kernel⟩
theorem ms_Law_99 : zh_MS R_Law 99 Y_Law_begun [(0, 9, 12, 13)] 3 := ⟨(zw_in (List.mem_of_getElem? (i := 594) (by decide +kernel)) (by decide +kernel)), (zw_in (List.mem_of_getElem? (i := 595) (by decide +kernel)) (by decide +kernel)), (zw_in (List.mem_of_getElem? (i := 596) (by decide +kernel)) (by decide +kernel)), (zw_in (List.mem_of_getElem? (i := 24) (by decide +kernel)) (by decide +kernel)), by decide +kernel, by decide +kernel⟩
theorem ms_Law_102 : zh_MS R_Law 102 Y_Law_waited [(0, 10, 13, 13)] 4 := ⟨(zw_in (List.mem_of_getElem? (i := 601) (by decide +kernel)) (by decide +kernel)), (zw_in (List.mem_of_getElem? (i := 602) (by decide +kernel)) (by decide +kernel)), (zw_in (List.mem_of_getElem? (i := 603) (by decide +kernel)) (by decide +kernel)), (zw_in (List.mem_of_getElem? (i := 24) (by decide +kernel)) (by decide +kernel)), by decide +kernel, by decide +kernel⟩
set_option maxHeartbeats 8000000 in
set_option maxRecDepth 100000 in
theorem zl_loop {p : Program} {l : Launch} (hTr : l.stackTraces = false) {e : Env} {s : State} {m : MethodId} {below : List Frame} {meth : Method} {c : Code} {D : va_G} {cA : Nat → ClassId} {ad : Nat → Nat} {sh : zw_Sh} {n : Nat} (hn : n ≤ 16) (hs : ∀ (k : Nat) (q : zw_Sp), shX n k = some q → sh k = some q) (hm : ∀ (k : Nat) (q : zw_Sp), shM k = some q → sh k = some q) (ho : sh 30 = some (.inr (1, 1, 0)))
    {J : zw_I → zw_L → Prop} (hJ : zl_Ag n J) (X : zw_C D cA R_Law code 8 p m c s) (hr : meth.sig.returnType = ret) (hlocks : meth.locks = false) (Zx : zt_X s) (Zz : zt_Z s.heap.size s s.heap) {b L : Nat} {xs : Nat → Int32} (hL : L ≤ 3074) (hX : va_X b L xs s s.heap) (hbl : b < s.heap.size) :
    ∀ (f j : Nat) (mi : zw_I) (ml : zw_L) (z : Nat) (H : Heap) (locs : List Loc) (ls : Array Slot), 3082 ≤ j + 6 * f → j ≤ 3080 → J mi ml → zw_B D cA ad sh (fun q => s.heap.size ≤ q) s.heap mi ml z H locs → lv_has ls 8 [(4, .int (nI j)), (0, .ref b), (1, .ref (ad 0)), (2, .ref (ad 32)), (3, .ref (ad 30))] →
      W p l e room_1 s m #[Value.ref b] below meth c H locs (300 + j) (4000 + j) (lw_Z below #[Value.ref b] s) (F0 m 43 ls []) := by
  have hx := X.1
  have hb : c.code = code := X.2.1
  have hbA : ¬ (fun q => s.heap.size ≤ q) b := Nat.not_le.mpr hbl
  intro f
  induction f with
  | zero =>
    intro j mi ml z H locs ls hi h2
    omega
  | succ f ih =>
    intro j mi ml z H locs ls hi h2 hj hB hl
    have hj0 := hj
    refine lv_iload hx hb d_Law_law_43 (lv_at hl 0 rfl) ?_
    refine lv_aload_n hx hb d_Law_law_45 rfl (lv_at hl 1 rfl) ?_
    refine va_slen hx hb hX hbl hbA hB.2.2.2.1 d_Law_law_46 ?_
    refine lv_bipush (v := 6) hx hb d_Law_law_47 (by decide) ?_
    refine lv_isub hx hb d_Law_law_49 ?_
    refine lv_icmp_gt (tgt := 921) hx hb d_Law_law_50 (by decide) (fun c_50 => ?_) (fun c_50 => ?_)
    · refine lv_iconst (v := 1) hx hb d_Law_law_921 (by decide) ?_
      refine zw_drop hB.2.2.2.1.2.2 ?_
      refine zw_wide (k := 601024) (n := 7293000) (by omega) (by omega) ?_
      exact lw_ret hx hb hr hlocks d_Law_law_922
    · obtain ⟨hin0, hj6⟩ := zl_in0 hL h2 c_50
      obtain ⟨x0, ex0⟩ : ∃ y, y = xs (nI j).toNatClampNeg := ⟨_, rfl⟩
      obtain ⟨x1, ex1⟩ : ∃ y, y = xs (nI j + 1).toNatClampNeg := ⟨_, rfl⟩
      obtain ⟨x2, ex2⟩ : ∃ y, y = xs (nI j + 2).toNatClampNeg := ⟨_, rfl⟩
      obtain ⟨x3, ex3⟩ : ∃ y, y = xs (nI j + 3).toNatClampNeg := ⟨_, rfl⟩
      obtain ⟨x4, ex4⟩ : ∃ y, y = xs (nI j + 4).toNatClampNeg := ⟨_, rfl⟩
      obtain ⟨x5, ex5⟩ : ∃ y, y = xs (nI j + 5).toNatClampNeg := ⟨_, rfl⟩
      refine lv_aload_n hx hb d_Law_law_53 rfl (lv_at hl 1 rfl) ?_
      refine lv_iload hx hb d_Law_law_54 (lv_at hl 0 rfl) ?_
      refine va_sld hx hb hX hbl hbA hB.2.2.2.1 hin0 d_Law_law_56 ?_
      rw [← ex0]
      refine lv_bipush (v := 15) hx hb d_Law_law_57 (by decide) ?_
      refine lv_iand hx hb d_Law_law_59 ?_
      obtain ⟨y0, ey0⟩ : ∃ y, y = x0 &&& 15 := ⟨_, rfl⟩
      rw [← ey0]
      by_cases hk_0 : y0 = 0
      · subst hk_0
        refine lv_tableIn (off := 64) (tgt := 124) hx hb d_Law_law_60 (by decide) (by decide) (by decide) (by decide) ?_
        skip
        refine lv_aload_n hx hb d_Law_law_124 rfl (lv_at hl 2 rfl) ?_
        refine lv_aload_n hx hb d_Law_law_125 rfl (lv_at hl 1 rfl) ?_
        refine lv_iload hx hb d_Law_law_126 (lv_at hl 0 rfl) ?_
        refine lv_iconst (v := 1) hx hb d_Law_law_128 (by decide) ?_
        refine lv_iadd hx hb d_Law_law_129 ?_
        refine va_sld hx hb hX hbl hbA hB.2.2.2.1 (zl_in (t := 1) hL h2 (by decide) c_50) d_Law_law_130 ?_
        rw [← ex1]
        refine lv_aload_n hx hb d_Law_law_131 rfl (lv_at hl 1 rfl) ?_
        refine lv_iload hx hb d_Law_law_132 (lv_at hl 0 rfl) ?_
        refine lv_iconst (v := 2) hx hb d_Law_law_134 (by decide) ?_
        refine lv_iadd hx hb d_Law_law_135 ?_
        refine va_sld hx hb hX hbl hbA hB.2.2.2.1 (zl_in (t := 2) hL h2 (by decide) c_50) d_Law_law_136 ?_
        rw [← ex2]
        refine lv_aload_n hx hb d_Law_law_137 rfl (lv_at hl 1 rfl) ?_
        refine lv_iload hx hb d_Law_law_138 (lv_at hl 0 rfl) ?_
        refine lv_iconst (v := 3) hx hb d_Law_law_140 (by decide) ?_
        refine lv_iadd hx hb d_Law_law_141 ?_
        refine va_sld hx hb hX hbl hbA hB.2.2.2.1 (zl_in (t := 3) hL h2 (by decide) c_50) d_Law_law_142 ?_
        rw [← ex3]
        refine lv_aload_n hx hb d_Law_law_143 rfl (lv_at hl 1 rfl) ?_
        refine lv_iload hx hb d_Law_law_144 (lv_at hl 0 rfl) ?_
        refine lv_iconst (v := 4) hx hb d_Law_law_146 (by decide) ?_
        refine lv_iadd hx hb d_Law_law_147 ?_
        refine va_sld hx hb hX hbl hbA hB.2.2.2.1 (zl_in (t := 4) hL h2 (by decide) c_50) d_Law_law_148 ?_
        rw [← ex4]
        refine lv_i2l (v := x4.toInt64) hx hb d_Law_law_149 rfl ?_
        refine lv_bipush (v := 32) hx hb d_Law_law_150 (by decide) ?_
        refine lv_lshl (v := x4.toInt64 <<< ((32 : Int32).toInt64 &&& 63)) hx hb d_Law_law_152 rfl ?_
        refine lv_aload_n hx hb d_Law_law_153 rfl (lv_at hl 1 rfl) ?_
        refine lv_iload hx hb d_Law_law_154 (lv_at hl 0 rfl) ?_
        refine lv_iconst (v := 5) hx hb d_Law_law_156 (by decide) ?_
        refine lv_iadd hx hb d_Law_law_157 ?_
        refine va_sld hx hb hX hbl hbA hB.2.2.2.1 (zl_in (t := 5) hL h2 (by decide) c_50) d_Law_law_158 ?_
        rw [← ex5]
        refine lv_i2l (v := x5.toInt64) hx hb d_Law_law_159 rfl ?_
        refine lv_ldc2 (v := 4294967295) hx hb X.2.2.2.1 (X.2.2.2.2.ts _ kc_Law_65) d_Law_law_160 ?_
        refine lv_land hx hb d_Law_law_163 ?_
        refine lv_lor hx hb d_Law_law_164 ?_
        obtain ⟨t9, et9⟩ : ∃ y, y = (x4.toInt64 <<< ((32 : Int32).toInt64 &&& 63)) ||| (x5.toInt64 &&& 4294967295) := ⟨_, rfl⟩
        rw [← et9]
        refine lv_aload_n hx hb d_Law_law_165 rfl (lv_at hl 4 rfl) ?_
        obtain ⟨hx0, hq0, hcode, hval, hj⟩ := hJ.share mi ml x1 x2 x3 t9 hj
        refine zh_call X Zx (zl_Z Zz hB) hB ms_Law_67 (c_Law_share hTr hn hs ho z (zl_A hB) mi ml x1 x2 x3 t9 hx0) rfl hl.1 ⟨Nat.le_of_ble_eq_true rfl, Nat.le_of_ble_eq_true rfl⟩ rfl (Nat.le_of_ble_eq_true rfl) ⟨(by show 300 + j + 1 ≤ 601024; omega), (by show 4000 + j + 6 ≤ 7293000; omega)⟩ d_Law_law_166 (fun H locs hB => ?_)
        refine lv_istore (lv' := [(5, .int (zh_c zh_k (p_share mi ml x1 x2 x3 t9))), (4, .int (nI j)), (0, .ref b), (1, .ref (ad 0)), (2, .ref (ad 32)), (3, .ref (ad 30))]) hx hb d_Law_law_169 hl (by decide) rfl (fun ls hl => ?_)
        refine lv_aload_n hx hb d_Law_law_171 rfl (lv_at hl 4 rfl) ?_
        refine lv_aload_n hx hb d_Law_law_172 rfl (lv_at hl 2 rfl) ?_
        refine lv_iload hx hb d_Law_law_173 (lv_at hl 1 rfl) ?_
        refine lv_iconst (v := 1) hx hb d_Law_law_175 (by decide) ?_
        refine lv_iadd hx hb d_Law_law_176 ?_
        refine va_sld hx hb hX hbl hbA hB.2.2.2.1 (zl_in (t := 1) hL h2 (by decide) c_50) d_Law_law_177 ?_
        rw [← ex1]
        refine lv_aload_n hx hb d_Law_law_178 rfl (lv_at hl 2 rfl) ?_
        refine lv_iload hx hb d_Law_law_179 (lv_at hl 1 rfl) ?_
        refine lv_iconst (v := 2) hx hb d_Law_law_181 (by decide) ?_
        refine lv_iadd hx hb d_Law_law_182 ?_
        refine va_sld hx hb hX hbl hbA hB.2.2.2.1 (zl_in (t := 2) hL h2 (by decide) c_50) d_Law_law_183 ?_
        rw [← ex2]
        refine lv_aload_n hx hb d_Law_law_184 rfl (lv_at hl 2 rfl) ?_
        refine lv_iload hx hb d_Law_law_185 (lv_at hl 1 rfl) ?_
        refine lv_iconst (v := 3) hx hb d_Law_law_187 (by decide) ?_
        refine lv_iadd hx hb d_Law_law_188 ?_
        refine va_sld hx hb hX hbl hbA hB.2.2.2.1 (zl_in (t := 3) hL h2 (by decide) c_50) d_Law_law_189 ?_
        rw [← ex3]
        refine lv_aload_n hx hb d_Law_law_190 rfl (lv_at hl 2 rfl) ?_
        refine lv_iload hx hb d_Law_law_191 (lv_at hl 1 rfl) ?_
        refine lv_iconst (v := 4) hx hb d_Law_law_193 (by decide) ?_
        refine lv_iadd hx hb d_Law_law_194 ?_
        refine va_sld hx hb hX hbl hbA hB.2.2.2.1 (zl_in (t := 4) hL h2 (by decide) c_50) d_Law_law_195 ?_
        rw [← ex4]
        refine lv_i2l (v := x4.toInt64) hx hb d_Law_law_196 rfl ?_
        refine lv_bipush (v := 32) hx hb d_Law_law_197 (by decide) ?_
        refine lv_lshl (v := x4.toInt64 <<< ((32 : Int32).toInt64 &&& 63)) hx hb d_Law_law_199 rfl ?_
        refine lv_aload_n hx hb d_Law_law_200 rfl (lv_at hl 2 rfl) ?_
        refine lv_iload hx hb d_Law_law_201 (lv_at hl 1 rfl) ?_
        refine lv_iconst (v := 5) hx hb d_Law_law_203 (by decide) ?_
        refine lv_iadd hx hb d_Law_law_204 ?_
        refine va_sld hx hb hX hbl hbA hB.2.2.2.1 (zl_in (t := 5) hL h2 (by decide) c_50) d_Law_law_205 ?_
        rw [← ex5]
        refine lv_i2l (v := x5.toInt64) hx hb d_Law_law_206 rfl ?_
        refine lv_ldc2 (v := 4294967295) hx hb X.2.2.2.1 (X.2.2.2.2.ts _ kc_Law_65) d_Law_law_207 ?_
        refine lv_land hx hb d_Law_law_210 ?_
        refine lv_lor hx hb d_Law_law_211 ?_
        rw [← et9]
        refine zw_callVr X hB mv_Law_70 32 (hm 32 _ rfl) rfl (c_Model_share hm (z + zh_z (p_share mi ml x1 x2 x3 t9)) (zh_i mi (p_share mi ml x1 x2 x3 t9)) (zh_l ml (p_share mi ml x1 x2 x3 t9)) x1 x2 x3 t9 hq0) rfl hl.1 ⟨Nat.le_of_ble_eq_true rfl, Nat.le_of_ble_eq_true rfl⟩ rfl (Nat.le_of_ble_eq_true rfl) ⟨(by show 300 + j + 1 + 0 ≤ 601024; omega), (by show 4000 + j + 6 + 0 ≤ 7293000; omega)⟩ d_Law_law_212 (fun H locs hB => ?_)
        refine lv_istore (lv' := [(6, .int ((q_share (zh_i mi (p_share mi ml x1 x2 x3 t9)) (zh_l ml (p_share mi ml x1 x2 x3 t9)) x1 x2 x3 t9).1)), (5, .int (zh_c zh_k (p_share mi ml x1 x2 x3 t9))), (4, .int (nI j)), (0, .ref b), (1, .ref (ad 0)), (2, .ref (ad 32)), (3, .ref (ad 30))]) hx hb d_Law_law_215 hl (by decide) rfl (fun ls hl => ?_)
        refine lv_aload_n hx hb d_Law_law_217 rfl (lv_at hl 5 rfl) ?_
        refine zw_callVr X hB mv_Law_71 32 (hm 32 _ rfl) rfl (c_Model_thrown hm (z + zh_z (p_share mi ml x1 x2 x3 t9)) ((q_share (zh_i mi (p_share mi ml x1 x2 x3 t9)) (zh_l ml (p_share mi ml x1 x2 x3 t9)) x1 x2 x3 t9).2.1) ((q_share (zh_i mi (p_share mi ml x1 x2 x3 t9)) (zh_l ml (p_share mi ml x1 x2 x3 t9)) x1 x2 x3 t9).2.2)) rfl hl.1 ⟨Nat.le_of_ble_eq_true rfl, Nat.le_of_ble_eq_true rfl⟩ rfl (Nat.le_of_ble_eq_true rfl) ⟨(by show 300 + j + 1 + 0 + 0 ≤ 601024; omega), (by show 4000 + j + 6 + 0 + 0 ≤ 7293000; omega)⟩ d_Law_law_218 (fun H locs hB => ?_)
        refine lv_iload hx hb d_Law_law_221 (lv_at hl 1 rfl) ?_
        refine lv_icmp_eq (tgt := 228) hx hb d_Law_law_223 (by decide) (fun c_223 => ?_) (fun c_223 => ?_)
        · refine lv_iload hx hb d_Law_law_228 (lv_at hl 1 rfl) ?_
          skip
          refine lv_if_ne (tgt := 245) hx hb d_Law_law_230 (by decide) (fun c_230 => ?_) (fun c_230 => ?_)
          · refine lv_goto (tgt := 915) hx hb d_Law_law_245 (by decide) ?_
            refine lv_iinc (v := nI (j + 6)) (lv' := [(4, .int (nI (j + 6))), (6, .int ((q_share (zh_i mi (p_share mi ml x1 x2 x3 t9)) (zh_l ml (p_share mi ml x1 x2 x3 t9)) x1 x2 x3 t9).1)), (5, .int (zh_c zh_k (p_share mi ml x1 x2 x3 t9))), (0, .ref b), (1, .ref (ad 0)), (2, .ref (ad 32)), (3, .ref (ad 30))]) hx hb d_Law_law_915 hl (k := 2) rfl (show nI j + 6 = nI (j + 6) from nI_add j 6) (by decide) rfl (fun ls hl => ?_)
            refine lv_goto (tgt := 43) hx hb d_Law_law_918 (by decide) ?_
            refine zw_wide (k := 300 + (j + 6)) (n := 4000 + (j + 6)) (by omega) (by omega) ?_
            exact ih (j + 6) _ _ _ H locs ls (by omega) (by omega) hj hB (lv_sub hl [0, 3, 4, 5, 6] rfl)
          · have hzero := c_230
            refine lv_aload_n hx hb d_Law_law_233 rfl (lv_at hl 6 rfl) ?_
            refine lv_iconst (v := 0) hx hb d_Law_law_234 (by decide) ?_
            refine zw_lald X hB 30 ho zh_01 d_Law_law_235 ?_
            refine lv_iload hx hb d_Law_law_236 (lv_at hl 0 rfl) ?_
            refine lv_i2l (v := ((q_share (zh_i mi (p_share mi ml x1 x2 x3 t9)) (zh_l ml (p_share mi ml x1 x2 x3 t9)) x1 x2 x3 t9).1).toInt64) hx hb d_Law_law_238 rfl ?_
            refine W.lcmp hx hb d_Law_law_239 ?_
            refine lv_if_eq (tgt := 245) hx hb d_Law_law_240 (by decide) (fun c_240 => ?_) (fun c_240 => ?_)
            · refine lv_goto (tgt := 915) hx hb d_Law_law_245 (by decide) ?_
              refine lv_iinc (v := nI (j + 6)) (lv' := [(4, .int (nI (j + 6))), (6, .int ((q_share (zh_i mi (p_share mi ml x1 x2 x3 t9)) (zh_l ml (p_share mi ml x1 x2 x3 t9)) x1 x2 x3 t9).1)), (5, .int (zh_c zh_k (p_share mi ml x1 x2 x3 t9))), (0, .ref b), (1, .ref (ad 0)), (2, .ref (ad 32)), (3, .ref (ad 30))]) hx hb d_Law_law_915 hl (k := 2) rfl (show nI j + 6 = nI (j + 6) from nI_add j 6) (by decide) rfl (fun ls hl => ?_)
              refine lv_goto (tgt := 43) hx hb d_Law_law_918 (by decide) ?_
              refine zw_wide (k := 300 + (j + 6)) (n := 4000 + (j + 6)) (by omega) (by omega) ?_
              exact ih (j + 6) _ _ _ H locs ls (by omega) (by omega) hj hB (lv_sub hl [0, 3, 4, 5, 6] rfl)
            · exact absurd (zl_cmp (hval hzero)) c_240
        · exact absurd hcode c_223
      by_cases hk_1 : y0 = 1
      · subst hk_1
        refine lv_tableIn (off := 188) (tgt := 248) hx hb d_Law_law_60 (by decide) (by decide) (by decide) (by decide) ?_
        skip
        refine lv_aload_n hx hb d_Law_law_248 rfl (lv_at hl 2 rfl) ?_
        refine lv_aload_n hx hb d_Law_law_249 rfl (lv_at hl 1 rfl) ?_
        refine lv_iload hx hb d_Law_law_250 (lv_at hl 0 rfl) ?_
        refine lv_iconst (v := 1) hx hb d_Law_law_252 (by decide) ?_
        refine lv_iadd hx hb d_Law_law_253 ?_
        refine va_sld hx hb hX hbl hbA hB.2.2.2.1 (zl_in (t := 1) hL h2 (by decide) c_50) d_Law_law_254 ?_
        rw [← ex1]
        refine lv_aload_n hx hb d_Law_law_255 rfl (lv_at hl 1 rfl) ?_
        refine lv_iload hx hb d_Law_law_256 (lv_at hl 0 rfl) ?_
        refine lv_iconst (v := 2) hx hb d_Law_law_258 (by decide) ?_
        refine lv_iadd hx hb d_Law_law_259 ?_
        refine va_sld hx hb hX hbl hbA hB.2.2.2.1 (zl_in (t := 2) hL h2 (by decide) c_50) d_Law_law_260 ?_
        rw [← ex2]
        refine lv_aload_n hx hb d_Law_law_261 rfl (lv_at hl 1 rfl) ?_
        refine lv_iload hx hb d_Law_law_262 (lv_at hl 0 rfl) ?_
        refine lv_iconst (v := 3) hx hb d_Law_law_264 (by decide) ?_
        refine lv_iadd hx hb d_Law_law_265 ?_
        refine va_sld hx hb hX hbl hbA hB.2.2.2.1 (zl_in (t := 3) hL h2 (by decide) c_50) d_Law_law_266 ?_
        rw [← ex3]
        refine lv_aload_n hx hb d_Law_law_267 rfl (lv_at hl 1 rfl) ?_
        refine lv_iload hx hb d_Law_law_268 (lv_at hl 0 rfl) ?_
        refine lv_iconst (v := 4) hx hb d_Law_law_270 (by decide) ?_
        refine lv_iadd hx hb d_Law_law_271 ?_
        refine va_sld hx hb hX hbl hbA hB.2.2.2.1 (zl_in (t := 4) hL h2 (by decide) c_50) d_Law_law_272 ?_
        rw [← ex4]
        refine lv_aload_n hx hb d_Law_law_273 rfl (lv_at hl 4 rfl) ?_
        obtain ⟨hx0, hx1, hq0, hq1, hcode, hval, hj⟩ := hJ.need mi ml x1 x2 x3 x4 hj
        refine zh_call X Zx (zl_Z Zz hB) hB ms_Law_75 (c_Law_need hTr hn hs ho z (zl_A hB) mi ml x1 x2 x3 x4 hx0 hx1) rfl hl.1 ⟨Nat.le_of_ble_eq_true rfl, Nat.le_of_ble_eq_true rfl⟩ rfl (Nat.le_of_ble_eq_true rfl) ⟨(by show 300 + j + 1 ≤ 601024; omega), (by show 4000 + j + 6 ≤ 7293000; omega)⟩ d_Law_law_274 (fun H locs hB => ?_)
        refine lv_istore (lv' := [(5, .int (zh_c zh_k (p_need mi ml x1 x2 x3 x4))), (4, .int (nI j)), (0, .ref b), (1, .ref (ad 0)), (2, .ref (ad 32)), (3, .ref (ad 30))]) hx hb d_Law_law_277 hl (by decide) rfl (fun ls hl => ?_)
        refine lv_aload_n hx hb d_Law_law_279 rfl (lv_at hl 4 rfl) ?_
        refine lv_aload_n hx hb d_Law_law_280 rfl (lv_at hl 2 rfl) ?_
        refine lv_iload hx hb d_Law_law_281 (lv_at hl 1 rfl) ?_
        refine lv_iconst (v := 1) hx hb d_Law_law_283 (by decide) ?_
        refine lv_iadd hx hb d_Law_law_284 ?_
        refine va_sld hx hb hX hbl hbA hB.2.2.2.1 (zl_in (t := 1) hL h2 (by decide) c_50) d_Law_law_285 ?_
        rw [← ex1]
        refine lv_aload_n hx hb d_Law_law_286 rfl (lv_at hl 2 rfl) ?_
        refine lv_iload hx hb d_Law_law_287 (lv_at hl 1 rfl) ?_
        refine lv_iconst (v := 2) hx hb d_Law_law_289 (by decide) ?_
        refine lv_iadd hx hb d_Law_law_290 ?_
        refine va_sld hx hb hX hbl hbA hB.2.2.2.1 (zl_in (t := 2) hL h2 (by decide) c_50) d_Law_law_291 ?_
        rw [← ex2]
        refine lv_aload_n hx hb d_Law_law_292 rfl (lv_at hl 2 rfl) ?_
        refine lv_iload hx hb d_Law_law_293 (lv_at hl 1 rfl) ?_
        refine lv_iconst (v := 3) hx hb d_Law_law_295 (by decide) ?_
        refine lv_iadd hx hb d_Law_law_296 ?_
        refine va_sld hx hb hX hbl hbA hB.2.2.2.1 (zl_in (t := 3) hL h2 (by decide) c_50) d_Law_law_297 ?_
        rw [← ex3]
        refine lv_aload_n hx hb d_Law_law_298 rfl (lv_at hl 2 rfl) ?_
        refine lv_iload hx hb d_Law_law_299 (lv_at hl 1 rfl) ?_
        refine lv_iconst (v := 4) hx hb d_Law_law_301 (by decide) ?_
        refine lv_iadd hx hb d_Law_law_302 ?_
        refine va_sld hx hb hX hbl hbA hB.2.2.2.1 (zl_in (t := 4) hL h2 (by decide) c_50) d_Law_law_303 ?_
        rw [← ex4]
        refine zw_callVr X hB mv_Law_78 32 (hm 32 _ rfl) rfl (c_Model_need hm (z + zh_z (p_need mi ml x1 x2 x3 x4)) (zh_i mi (p_need mi ml x1 x2 x3 x4)) (zh_l ml (p_need mi ml x1 x2 x3 x4)) x1 x2 x3 x4 hq0 hq1) rfl hl.1 ⟨Nat.le_of_ble_eq_true rfl, Nat.le_of_ble_eq_true rfl⟩ rfl (Nat.le_of_ble_eq_true rfl) ⟨(by show 300 + j + 1 + 0 ≤ 601024; omega), (by show 4000 + j + 6 + 0 ≤ 7293000; omega)⟩ d_Law_law_304 (fun H locs hB => ?_)
        refine lv_istore (lv' := [(6, .int ((q_need (zh_i mi (p_need mi ml x1 x2 x3 x4)) x1 x2 x3 x4).1)), (5, .int (zh_c zh_k (p_need mi ml x1 x2 x3 x4))), (4, .int (nI j)), (0, .ref b), (1, .ref (ad 0)), (2, .ref (ad 32)), (3, .ref (ad 30))]) hx hb d_Law_law_307 hl (by decide) rfl (fun ls hl => ?_)
        refine lv_aload_n hx hb d_Law_law_309 rfl (lv_at hl 5 rfl) ?_
        refine zw_callVr X hB mv_Law_71 32 (hm 32 _ rfl) rfl (c_Model_thrown hm (z + zh_z (p_need mi ml x1 x2 x3 x4)) ((q_need (zh_i mi (p_need mi ml x1 x2 x3 x4)) x1 x2 x3 x4).2) (zh_l ml (p_need mi ml x1 x2 x3 x4))) rfl hl.1 ⟨Nat.le_of_ble_eq_true rfl, Nat.le_of_ble_eq_true rfl⟩ rfl (Nat.le_of_ble_eq_true rfl) ⟨(by show 300 + j + 1 + 0 + 0 ≤ 601024; omega), (by show 4000 + j + 6 + 0 + 0 ≤ 7293000; omega)⟩ d_Law_law_310 (fun H locs hB => ?_)
        refine lv_iload hx hb d_Law_law_313 (lv_at hl 1 rfl) ?_
        refine lv_icmp_eq (tgt := 320) hx hb d_Law_law_315 (by decide) (fun c_315 => ?_) (fun c_315 => ?_)
        · refine lv_iload hx hb d_Law_law_320 (lv_at hl 1 rfl) ?_
          skip
          refine lv_if_ne (tgt := 337) hx hb d_Law_law_322 (by decide) (fun c_322 => ?_) (fun c_322 => ?_)
          · refine lv_goto (tgt := 915) hx hb d_Law_law_337 (by decide) ?_
            refine lv_iinc (v := nI (j + 6)) (lv' := [(4, .int (nI (j + 6))), (6, .int ((q_need (zh_i mi (p_need mi ml x1 x2 x3 x4)) x1 x2 x3 x4).1)), (5, .int (zh_c zh_k (p_need mi ml x1 x2 x3 x4))), (0, .ref b), (1, .ref (ad 0)), (2, .ref (ad 32)), (3, .ref (ad 30))]) hx hb d_Law_law_915 hl (k := 2) rfl (show nI j + 6 = nI (j + 6) from nI_add j 6) (by decide) rfl (fun ls hl => ?_)
            refine lv_goto (tgt := 43) hx hb d_Law_law_918 (by decide) ?_
            refine zw_wide (k := 300 + (j + 6)) (n := 4000 + (j + 6)) (by omega) (by omega) ?_
            exact ih (j + 6) _ _ _ H locs ls (by omega) (by omega) hj hB (lv_sub hl [0, 3, 4, 5, 6] rfl)
          · have hzero := c_322
            refine lv_aload_n hx hb d_Law_law_325 rfl (lv_at hl 6 rfl) ?_
            refine lv_iconst (v := 0) hx hb d_Law_law_326 (by decide) ?_
            refine zw_lald X hB 30 ho zh_01 d_Law_law_327 ?_
            refine lv_iload hx hb d_Law_law_328 (lv_at hl 0 rfl) ?_
            refine lv_i2l (v := ((q_need (zh_i mi (p_need mi ml x1 x2 x3 x4)) x1 x2 x3 x4).1).toInt64) hx hb d_Law_law_330 rfl ?_
            refine W.lcmp hx hb d_Law_law_331 ?_
            refine lv_if_eq (tgt := 337) hx hb d_Law_law_332 (by decide) (fun c_332 => ?_) (fun c_332 => ?_)
            · refine lv_goto (tgt := 915) hx hb d_Law_law_337 (by decide) ?_
              refine lv_iinc (v := nI (j + 6)) (lv' := [(4, .int (nI (j + 6))), (6, .int ((q_need (zh_i mi (p_need mi ml x1 x2 x3 x4)) x1 x2 x3 x4).1)), (5, .int (zh_c zh_k (p_need mi ml x1 x2 x3 x4))), (0, .ref b), (1, .ref (ad 0)), (2, .ref (ad 32)), (3, .ref (ad 30))]) hx hb d_Law_law_915 hl (k := 2) rfl (show nI j + 6 = nI (j + 6) from nI_add j 6) (by decide) rfl (fun ls hl => ?_)
              refine lv_goto (tgt := 43) hx hb d_Law_law_918 (by decide) ?_
              refine zw_wide (k := 300 + (j + 6)) (n := 4000 + (j + 6)) (by omega) (by omega) ?_
              exact ih (j + 6) _ _ _ H locs ls (by omega) (by omega) hj hB (lv_sub hl [0, 3, 4, 5, 6] rfl)
            · exact absurd (zl_cmp (hval hzero)) c_332
        · exact absurd hcode c_315
      by_cases hk_2 : y0 = 2
      · subst hk_2
        refine lv_tableIn (off := 280) (tgt := 340) hx hb d_Law_law_60 (by decide) (by decide) (by decide) (by decide) ?_
        skip
        refine lv_aload_n hx hb d_Law_law_340 rfl (lv_at hl 2 rfl) ?_
        refine lv_aload_n hx hb d_Law_law_341 rfl (lv_at hl 1 rfl) ?_
        refine lv_iload hx hb d_Law_law_342 (lv_at hl 0 rfl) ?_
        refine lv_iconst (v := 1) hx hb d_Law_law_344 (by decide) ?_
        refine lv_iadd hx hb d_Law_law_345 ?_
        refine va_sld hx hb hX hbl hbA hB.2.2.2.1 (zl_in (t := 1) hL h2 (by decide) c_50) d_Law_law_346 ?_
        rw [← ex1]
        refine lv_aload_n hx hb d_Law_law_347 rfl (lv_at hl 4 rfl) ?_
        obtain ⟨hx0, hq0, hcode, hval, hj⟩ := hJ.free mi ml x1 hj
        refine zh_call X Zx (zl_Z Zz hB) hB ms_Law_79 (c_Law_free hTr hn hs ho z (zl_A hB) mi ml x1 hx0) rfl hl.1 ⟨Nat.le_of_ble_eq_true rfl, Nat.le_of_ble_eq_true rfl⟩ rfl (Nat.le_of_ble_eq_true rfl) ⟨(by show 300 + j + 1 ≤ 601024; omega), (by show 4000 + j + 6 ≤ 7293000; omega)⟩ d_Law_law_348 (fun H locs hB => ?_)
        refine lv_istore (lv' := [(5, .int (zh_c zh_k (p_free mi ml x1))), (4, .int (nI j)), (0, .ref b), (1, .ref (ad 0)), (2, .ref (ad 32)), (3, .ref (ad 30))]) hx hb d_Law_law_351 hl (by decide) rfl (fun ls hl => ?_)
        refine lv_aload_n hx hb d_Law_law_353 rfl (lv_at hl 4 rfl) ?_
        refine lv_aload_n hx hb d_Law_law_354 rfl (lv_at hl 2 rfl) ?_
        refine lv_iload hx hb d_Law_law_355 (lv_at hl 1 rfl) ?_
        refine lv_iconst (v := 1) hx hb d_Law_law_357 (by decide) ?_
        refine lv_iadd hx hb d_Law_law_358 ?_
        refine va_sld hx hb hX hbl hbA hB.2.2.2.1 (zl_in (t := 1) hL h2 (by decide) c_50) d_Law_law_359 ?_
        rw [← ex1]
        refine zw_callVr X hB mv_Law_82 32 (hm 32 _ rfl) rfl (c_Model_free hm (z + zh_z (p_free mi ml x1)) (zh_i mi (p_free mi ml x1)) (zh_l ml (p_free mi ml x1)) x1 hq0) rfl hl.1 ⟨Nat.le_of_ble_eq_true rfl, Nat.le_of_ble_eq_true rfl⟩ rfl (Nat.le_of_ble_eq_true rfl) ⟨(by show 300 + j + 1 + 0 ≤ 601024; omega), (by show 4000 + j + 6 + 0 ≤ 7293000; omega)⟩ d_Law_law_360 (fun H locs hB => ?_)
        refine lv_istore (lv' := [(6, .int ((q_free (zh_i mi (p_free mi ml x1)) x1).1)), (5, .int (zh_c zh_k (p_free mi ml x1))), (4, .int (nI j)), (0, .ref b), (1, .ref (ad 0)), (2, .ref (ad 32)), (3, .ref (ad 30))]) hx hb d_Law_law_363 hl (by decide) rfl (fun ls hl => ?_)
        refine lv_aload_n hx hb d_Law_law_365 rfl (lv_at hl 5 rfl) ?_
        refine zw_callVr X hB mv_Law_71 32 (hm 32 _ rfl) rfl (c_Model_thrown hm (z + zh_z (p_free mi ml x1)) ((q_free (zh_i mi (p_free mi ml x1)) x1).2) (zh_l ml (p_free mi ml x1))) rfl hl.1 ⟨Nat.le_of_ble_eq_true rfl, Nat.le_of_ble_eq_true rfl⟩ rfl (Nat.le_of_ble_eq_true rfl) ⟨(by show 300 + j + 1 + 0 + 0 ≤ 601024; omega), (by show 4000 + j + 6 + 0 + 0 ≤ 7293000; omega)⟩ d_Law_law_366 (fun H locs hB => ?_)
        refine lv_iload hx hb d_Law_law_369 (lv_at hl 1 rfl) ?_
        refine lv_icmp_eq (tgt := 376) hx hb d_Law_law_371 (by decide) (fun c_371 => ?_) (fun c_371 => ?_)
        · refine lv_iload hx hb d_Law_law_376 (lv_at hl 1 rfl) ?_
          skip
          refine lv_if_ne (tgt := 393) hx hb d_Law_law_378 (by decide) (fun c_378 => ?_) (fun c_378 => ?_)
          · refine lv_goto (tgt := 915) hx hb d_Law_law_393 (by decide) ?_
            refine lv_iinc (v := nI (j + 6)) (lv' := [(4, .int (nI (j + 6))), (6, .int ((q_free (zh_i mi (p_free mi ml x1)) x1).1)), (5, .int (zh_c zh_k (p_free mi ml x1))), (0, .ref b), (1, .ref (ad 0)), (2, .ref (ad 32)), (3, .ref (ad 30))]) hx hb d_Law_law_915 hl (k := 2) rfl (show nI j + 6 = nI (j + 6) from nI_add j 6) (by decide) rfl (fun ls hl => ?_)
            refine lv_goto (tgt := 43) hx hb d_Law_law_918 (by decide) ?_
            refine zw_wide (k := 300 + (j + 6)) (n := 4000 + (j + 6)) (by omega) (by omega) ?_
            exact ih (j + 6) _ _ _ H locs ls (by omega) (by omega) hj hB (lv_sub hl [0, 3, 4, 5, 6] rfl)
          · have hzero := c_378
            refine lv_aload_n hx hb d_Law_law_381 rfl (lv_at hl 6 rfl) ?_
            refine lv_iconst (v := 0) hx hb d_Law_law_382 (by decide) ?_
            refine zw_lald X hB 30 ho zh_01 d_Law_law_383 ?_
            refine lv_iload hx hb d_Law_law_384 (lv_at hl 0 rfl) ?_
            refine lv_i2l (v := ((q_free (zh_i mi (p_free mi ml x1)) x1).1).toInt64) hx hb d_Law_law_386 rfl ?_
            refine W.lcmp hx hb d_Law_law_387 ?_
            refine lv_if_eq (tgt := 393) hx hb d_Law_law_388 (by decide) (fun c_388 => ?_) (fun c_388 => ?_)
            · refine lv_goto (tgt := 915) hx hb d_Law_law_393 (by decide) ?_
              refine lv_iinc (v := nI (j + 6)) (lv' := [(4, .int (nI (j + 6))), (6, .int ((q_free (zh_i mi (p_free mi ml x1)) x1).1)), (5, .int (zh_c zh_k (p_free mi ml x1))), (0, .ref b), (1, .ref (ad 0)), (2, .ref (ad 32)), (3, .ref (ad 30))]) hx hb d_Law_law_915 hl (k := 2) rfl (show nI j + 6 = nI (j + 6) from nI_add j 6) (by decide) rfl (fun ls hl => ?_)
              refine lv_goto (tgt := 43) hx hb d_Law_law_918 (by decide) ?_
              refine zw_wide (k := 300 + (j + 6)) (n := 4000 + (j + 6)) (by omega) (by omega) ?_
              exact ih (j + 6) _ _ _ H locs ls (by omega) (by omega) hj hB (lv_sub hl [0, 3, 4, 5, 6] rfl)
            · exact absurd (zl_cmp (hval hzero)) c_388
        · exact absurd hcode c_371
      by_cases hk_3 : y0 = 3
      · subst hk_3
        refine lv_tableIn (off := 336) (tgt := 396) hx hb d_Law_law_60 (by decide) (by decide) (by decide) (by decide) ?_
        skip
        refine lv_aload_n hx hb d_Law_law_396 rfl (lv_at hl 2 rfl) ?_
        refine lv_aload_n hx hb d_Law_law_397 rfl (lv_at hl 1 rfl) ?_
        refine lv_iload hx hb d_Law_law_398 (lv_at hl 0 rfl) ?_
        refine lv_iconst (v := 1) hx hb d_Law_law_400 (by decide) ?_
        refine lv_iadd hx hb d_Law_law_401 ?_
        refine va_sld hx hb hX hbl hbA hB.2.2.2.1 (zl_in (t := 1) hL h2 (by decide) c_50) d_Law_law_402 ?_
        rw [← ex1]
        refine lv_aload_n hx hb d_Law_law_403 rfl (lv_at hl 1 rfl) ?_
        refine lv_iload hx hb d_Law_law_404 (lv_at hl 0 rfl) ?_
        refine lv_iconst (v := 2) hx hb d_Law_law_406 (by decide) ?_
        refine lv_iadd hx hb d_Law_law_407 ?_
        refine va_sld hx hb hX hbl hbA hB.2.2.2.1 (zl_in (t := 2) hL h2 (by decide) c_50) d_Law_law_408 ?_
        rw [← ex2]
        refine lv_aload_n hx hb d_Law_law_409 rfl (lv_at hl 1 rfl) ?_
        refine lv_iload hx hb d_Law_law_410 (lv_at hl 0 rfl) ?_
        refine lv_iconst (v := 3) hx hb d_Law_law_412 (by decide) ?_
        refine lv_iadd hx hb d_Law_law_413 ?_
        refine va_sld hx hb hX hbl hbA hB.2.2.2.1 (zl_in (t := 3) hL h2 (by decide) c_50) d_Law_law_414 ?_
        rw [← ex3]
        refine lv_aload_n hx hb d_Law_law_415 rfl (lv_at hl 1 rfl) ?_
        refine lv_iload hx hb d_Law_law_416 (lv_at hl 0 rfl) ?_
        refine lv_iconst (v := 4) hx hb d_Law_law_418 (by decide) ?_
        refine lv_iadd hx hb d_Law_law_419 ?_
        refine va_sld hx hb hX hbl hbA hB.2.2.2.1 (zl_in (t := 4) hL h2 (by decide) c_50) d_Law_law_420 ?_
        rw [← ex4]
        refine lv_aload_n hx hb d_Law_law_421 rfl (lv_at hl 4 rfl) ?_
        obtain ⟨hx0, hq0, hcode, hval, hj⟩ := hJ.failing mi ml x1 x2 x3 x4 hj
        refine zh_call X Zx (zl_Z Zz hB) hB ms_Law_83 (c_Law_failing hTr hn hs ho z (zl_A hB) mi ml x1 x2 x3 x4 hx0) rfl hl.1 ⟨Nat.le_of_ble_eq_true rfl, Nat.le_of_ble_eq_true rfl⟩ rfl (Nat.le_of_ble_eq_true rfl) ⟨(by show 300 + j + 1 ≤ 601024; omega), (by show 4000 + j + 6 ≤ 7293000; omega)⟩ d_Law_law_422 (fun H locs hB => ?_)
        refine lv_istore (lv' := [(5, .int (zh_c zh_k (p_failing mi ml x1 x2 x3 x4))), (4, .int (nI j)), (0, .ref b), (1, .ref (ad 0)), (2, .ref (ad 32)), (3, .ref (ad 30))]) hx hb d_Law_law_425 hl (by decide) rfl (fun ls hl => ?_)
        refine lv_aload_n hx hb d_Law_law_427 rfl (lv_at hl 4 rfl) ?_
        refine lv_aload_n hx hb d_Law_law_428 rfl (lv_at hl 2 rfl) ?_
        refine lv_iload hx hb d_Law_law_429 (lv_at hl 1 rfl) ?_
        refine lv_iconst (v := 1) hx hb d_Law_law_431 (by decide) ?_
        refine lv_iadd hx hb d_Law_law_432 ?_
        refine va_sld hx hb hX hbl hbA hB.2.2.2.1 (zl_in (t := 1) hL h2 (by decide) c_50) d_Law_law_433 ?_
        rw [← ex1]
        refine lv_aload_n hx hb d_Law_law_434 rfl (lv_at hl 2 rfl) ?_
        refine lv_iload hx hb d_Law_law_435 (lv_at hl 1 rfl) ?_
        refine lv_iconst (v := 2) hx hb d_Law_law_437 (by decide) ?_
        refine lv_iadd hx hb d_Law_law_438 ?_
        refine va_sld hx hb hX hbl hbA hB.2.2.2.1 (zl_in (t := 2) hL h2 (by decide) c_50) d_Law_law_439 ?_
        rw [← ex2]
        refine lv_aload_n hx hb d_Law_law_440 rfl (lv_at hl 2 rfl) ?_
        refine lv_iload hx hb d_Law_law_441 (lv_at hl 1 rfl) ?_
        refine lv_iconst (v := 3) hx hb d_Law_law_443 (by decide) ?_
        refine lv_iadd hx hb d_Law_law_444 ?_
        refine va_sld hx hb hX hbl hbA hB.2.2.2.1 (zl_in (t := 3) hL h2 (by decide) c_50) d_Law_law_445 ?_
        rw [← ex3]
        refine lv_aload_n hx hb d_Law_law_446 rfl (lv_at hl 2 rfl) ?_
        refine lv_iload hx hb d_Law_law_447 (lv_at hl 1 rfl) ?_
        refine lv_iconst (v := 4) hx hb d_Law_law_449 (by decide) ?_
        refine lv_iadd hx hb d_Law_law_450 ?_
        refine va_sld hx hb hX hbl hbA hB.2.2.2.1 (zl_in (t := 4) hL h2 (by decide) c_50) d_Law_law_451 ?_
        rw [← ex4]
        refine zw_callVr X hB mv_Law_85 32 (hm 32 _ rfl) rfl (c_Model_failing hm (z + zh_z (p_failing mi ml x1 x2 x3 x4)) (zh_i mi (p_failing mi ml x1 x2 x3 x4)) (zh_l ml (p_failing mi ml x1 x2 x3 x4)) x1 x2 x3 x4 hq0) rfl hl.1 ⟨Nat.le_of_ble_eq_true rfl, Nat.le_of_ble_eq_true rfl⟩ rfl (Nat.le_of_ble_eq_true rfl) ⟨(by show 300 + j + 1 + 0 ≤ 601024; omega), (by show 4000 + j + 6 + 0 ≤ 7293000; omega)⟩ d_Law_law_452 (fun H locs hB => ?_)
        refine lv_istore (lv' := [(6, .int ((q_failing (zh_i mi (p_failing mi ml x1 x2 x3 x4)) x1 x2 x3 x4).1)), (5, .int (zh_c zh_k (p_failing mi ml x1 x2 x3 x4))), (4, .int (nI j)), (0, .ref b), (1, .ref (ad 0)), (2, .ref (ad 32)), (3, .ref (ad 30))]) hx hb d_Law_law_455 hl (by decide) rfl (fun ls hl => ?_)
        refine lv_aload_n hx hb d_Law_law_457 rfl (lv_at hl 5 rfl) ?_
        refine zw_callVr X hB mv_Law_71 32 (hm 32 _ rfl) rfl (c_Model_thrown hm (z + zh_z (p_failing mi ml x1 x2 x3 x4)) ((q_failing (zh_i mi (p_failing mi ml x1 x2 x3 x4)) x1 x2 x3 x4).2) (zh_l ml (p_failing mi ml x1 x2 x3 x4))) rfl hl.1 ⟨Nat.le_of_ble_eq_true rfl, Nat.le_of_ble_eq_true rfl⟩ rfl (Nat.le_of_ble_eq_true rfl) ⟨(by show 300 + j + 1 + 0 + 0 ≤ 601024; omega), (by show 4000 + j + 6 + 0 + 0 ≤ 7293000; omega)⟩ d_Law_law_458 (fun H locs hB => ?_)
        refine lv_iload hx hb d_Law_law_461 (lv_at hl 1 rfl) ?_
        refine lv_icmp_eq (tgt := 468) hx hb d_Law_law_463 (by decide) (fun c_463 => ?_) (fun c_463 => ?_)
        · refine lv_iload hx hb d_Law_law_468 (lv_at hl 1 rfl) ?_
          skip
          refine lv_if_ne (tgt := 485) hx hb d_Law_law_470 (by decide) (fun c_470 => ?_) (fun c_470 => ?_)
          · refine lv_goto (tgt := 915) hx hb d_Law_law_485 (by decide) ?_
            refine lv_iinc (v := nI (j + 6)) (lv' := [(4, .int (nI (j + 6))), (6, .int ((q_failing (zh_i mi (p_failing mi ml x1 x2 x3 x4)) x1 x2 x3 x4).1)), (5, .int (zh_c zh_k (p_failing mi ml x1 x2 x3 x4))), (0, .ref b), (1, .ref (ad 0)), (2, .ref (ad 32)), (3, .ref (ad 30))]) hx hb d_Law_law_915 hl (k := 2) rfl (show nI j + 6 = nI (j + 6) from nI_add j 6) (by decide) rfl (fun ls hl => ?_)
            refine lv_goto (tgt := 43) hx hb d_Law_law_918 (by decide) ?_
            refine zw_wide (k := 300 + (j + 6)) (n := 4000 + (j + 6)) (by omega) (by omega) ?_
            exact ih (j + 6) _ _ _ H locs ls (by omega) (by omega) hj hB (lv_sub hl [0, 3, 4, 5, 6] rfl)
          · have hzero := c_470
            refine lv_aload_n hx hb d_Law_law_473 rfl (lv_at hl 6 rfl) ?_
            refine lv_iconst (v := 0) hx hb d_Law_law_474 (by decide) ?_
            refine zw_lald X hB 30 ho zh_01 d_Law_law_475 ?_
            refine lv_iload hx hb d_Law_law_476 (lv_at hl 0 rfl) ?_
            refine lv_i2l (v := ((q_failing (zh_i mi (p_failing mi ml x1 x2 x3 x4)) x1 x2 x3 x4).1).toInt64) hx hb d_Law_law_478 rfl ?_
            refine W.lcmp hx hb d_Law_law_479 ?_
            refine lv_if_eq (tgt := 485) hx hb d_Law_law_480 (by decide) (fun c_480 => ?_) (fun c_480 => ?_)
            · refine lv_goto (tgt := 915) hx hb d_Law_law_485 (by decide) ?_
              refine lv_iinc (v := nI (j + 6)) (lv' := [(4, .int (nI (j + 6))), (6, .int ((q_failing (zh_i mi (p_failing mi ml x1 x2 x3 x4)) x1 x2 x3 x4).1)), (5, .int (zh_c zh_k (p_failing mi ml x1 x2 x3 x4))), (0, .ref b), (1, .ref (ad 0)), (2, .ref (ad 32)), (3, .ref (ad 30))]) hx hb d_Law_law_915 hl (k := 2) rfl (show nI j + 6 = nI (j + 6) from nI_add j 6) (by decide) rfl (fun ls hl => ?_)
              refine lv_goto (tgt := 43) hx hb d_Law_law_918 (by decide) ?_
              refine zw_wide (k := 300 + (j + 6)) (n := 4000 + (j + 6)) (by omega) (by omega) ?_
              exact ih (j + 6) _ _ _ H locs ls (by omega) (by omega) hj hB (lv_sub hl [0, 3, 4, 5, 6] rfl)
            · exact absurd (zl_cmp (hval hzero)) c_480
        · exact absurd hcode c_463
      by_cases hk_4 : y0 = 4
      · subst hk_4
        refine lv_tableIn (off := 428) (tgt := 488) hx hb d_Law_law_60 (by decide) (by decide) (by decide) (by decide) ?_
        skip
        refine lv_aload_n hx hb d_Law_law_488 rfl (lv_at hl 2 rfl) ?_
        refine lv_aload_n hx hb d_Law_law_489 rfl (lv_at hl 1 rfl) ?_
        refine lv_iload hx hb d_Law_law_490 (lv_at hl 0 rfl) ?_
        refine lv_iconst (v := 1) hx hb d_Law_law_492 (by decide) ?_
        refine lv_iadd hx hb d_Law_law_493 ?_
        refine va_sld hx hb hX hbl hbA hB.2.2.2.1 (zl_in (t := 1) hL h2 (by decide) c_50) d_Law_law_494 ?_
        rw [← ex1]
        refine lv_aload_n hx hb d_Law_law_495 rfl (lv_at hl 4 rfl) ?_
        obtain ⟨hcode, hval, hj⟩ := hJ.stop mi ml x1 hj
        refine zh_call X Zx (zl_Z Zz hB) hB ms_Law_86 (c_Law_stop hTr hn hs ho z (zl_A hB) mi ml x1) rfl hl.1 ⟨Nat.le_of_ble_eq_true rfl, Nat.le_of_ble_eq_true rfl⟩ rfl (Nat.le_of_ble_eq_true rfl) ⟨(by show 300 + j + 1 ≤ 601024; omega), (by show 4000 + j + 6 ≤ 7293000; omega)⟩ d_Law_law_496 (fun H locs hB => ?_)
        refine lv_istore (lv' := [(5, .int (zh_c zh_k (p_stop mi ml x1))), (4, .int (nI j)), (0, .ref b), (1, .ref (ad 0)), (2, .ref (ad 32)), (3, .ref (ad 30))]) hx hb d_Law_law_499 hl (by decide) rfl (fun ls hl => ?_)
        refine lv_aload_n hx hb d_Law_law_501 rfl (lv_at hl 4 rfl) ?_
        refine lv_aload_n hx hb d_Law_law_502 rfl (lv_at hl 2 rfl) ?_
        refine lv_iload hx hb d_Law_law_503 (lv_at hl 1 rfl) ?_
        refine lv_iconst (v := 1) hx hb d_Law_law_505 (by decide) ?_
        refine lv_iadd hx hb d_Law_law_506 ?_
        refine va_sld hx hb hX hbl hbA hB.2.2.2.1 (zl_in (t := 1) hL h2 (by decide) c_50) d_Law_law_507 ?_
        rw [← ex1]
        refine zw_callVr X hB mv_Law_88 32 (hm 32 _ rfl) rfl (c_Model_stop hm (z + zh_z (p_stop mi ml x1)) (zh_i mi (p_stop mi ml x1)) (zh_l ml (p_stop mi ml x1)) x1) rfl hl.1 ⟨Nat.le_of_ble_eq_true rfl, Nat.le_of_ble_eq_true rfl⟩ rfl (Nat.le_of_ble_eq_true rfl) ⟨(by show 300 + j + 1 + 0 ≤ 601024; omega), (by show 4000 + j + 6 + 0 ≤ 7293000; omega)⟩ d_Law_law_508 (fun H locs hB => ?_)
        refine lv_istore (lv' := [(6, .int ((q_stop (zh_i mi (p_stop mi ml x1)) x1).1)), (5, .int (zh_c zh_k (p_stop mi ml x1))), (4, .int (nI j)), (0, .ref b), (1, .ref (ad 0)), (2, .ref (ad 32)), (3, .ref (ad 30))]) hx hb d_Law_law_511 hl (by decide) rfl (fun ls hl => ?_)
        refine lv_aload_n hx hb d_Law_law_513 rfl (lv_at hl 5 rfl) ?_
        refine zw_callVr X hB mv_Law_71 32 (hm 32 _ rfl) rfl (c_Model_thrown hm (z + zh_z (p_stop mi ml x1)) ((q_stop (zh_i mi (p_stop mi ml x1)) x1).2) (zh_l ml (p_stop mi ml x1))) rfl hl.1 ⟨Nat.le_of_ble_eq_true rfl, Nat.le_of_ble_eq_true rfl⟩ rfl (Nat.le_of_ble_eq_true rfl) ⟨(by show 300 + j + 1 + 0 + 0 ≤ 601024; omega), (by show 4000 + j + 6 + 0 + 0 ≤ 7293000; omega)⟩ d_Law_law_514 (fun H locs hB => ?_)
        refine lv_iload hx hb d_Law_law_517 (lv_at hl 1 rfl) ?_
        refine lv_icmp_eq (tgt := 524) hx hb d_Law_law_519 (by decide) (fun c_519 => ?_) (fun c_519 => ?_)
        · refine lv_iload hx hb d_Law_law_524 (lv_at hl 1 rfl) ?_
          skip
          refine lv_if_ne (tgt := 541) hx hb d_Law_law_526 (by decide) (fun c_526 => ?_) (fun c_526 => ?_)
          · refine lv_goto (tgt := 915) hx hb d_Law_law_541 (by decide) ?_
            refine lv_iinc (v := nI (j + 6)) (lv' := [(4, .int (nI (j + 6))), (6, .int ((q_stop (zh_i mi (p_stop mi ml x1)) x1).1)), (5, .int (zh_c zh_k (p_stop mi ml x1))), (0, .ref b), (1, .ref (ad 0)), (2, .ref (ad 32)), (3, .ref (ad 30))]) hx hb d_Law_law_915 hl (k := 2) rfl (show nI j + 6 = nI (j + 6) from nI_add j 6) (by decide) rfl (fun ls hl => ?_)
            refine lv_goto (tgt := 43) hx hb d_Law_law_918 (by decide) ?_
            refine zw_wide (k := 300 + (j + 6)) (n := 4000 + (j + 6)) (by omega) (by omega) ?_
            exact ih (j + 6) _ _ _ H locs ls (by omega) (by omega) hj hB (lv_sub hl [0, 3, 4, 5, 6] rfl)
          · have hzero := c_526
            refine lv_aload_n hx hb d_Law_law_529 rfl (lv_at hl 6 rfl) ?_
            refine lv_iconst (v := 0) hx hb d_Law_law_530 (by decide) ?_
            refine zw_lald X hB 30 ho zh_01 d_Law_law_531 ?_
            refine lv_iload hx hb d_Law_law_532 (lv_at hl 0 rfl) ?_
            refine lv_i2l (v := ((q_stop (zh_i mi (p_stop mi ml x1)) x1).1).toInt64) hx hb d_Law_law_534 rfl ?_
            refine W.lcmp hx hb d_Law_law_535 ?_
            refine lv_if_eq (tgt := 541) hx hb d_Law_law_536 (by decide) (fun c_536 => ?_) (fun c_536 => ?_)
            · refine lv_goto (tgt := 915) hx hb d_Law_law_541 (by decide) ?_
              refine lv_iinc (v := nI (j + 6)) (lv' := [(4, .int (nI (j + 6))), (6, .int ((q_stop (zh_i mi (p_stop mi ml x1)) x1).1)), (5, .int (zh_c zh_k (p_stop mi ml x1))), (0, .ref b), (1, .ref (ad 0)), (2, .ref (ad 32)), (3, .ref (ad 30))]) hx hb d_Law_law_915 hl (k := 2) rfl (show nI j + 6 = nI (j + 6) from nI_add j 6) (by decide) rfl (fun ls hl => ?_)
              refine lv_goto (tgt := 43) hx hb d_Law_law_918 (by decide) ?_
              refine zw_wide (k := 300 + (j + 6)) (n := 4000 + (j + 6)) (by omega) (by omega) ?_
              exact ih (j + 6) _ _ _ H locs ls (by omega) (by omega) hj hB (lv_sub hl [0, 3, 4, 5, 6] rfl)
            · exact absurd (zl_cmp (hval hzero)) c_536
        · exact absurd hcode c_519
      by_cases hk_5 : y0 = 5
      · subst hk_5
        refine lv_tableIn (off := 484) (tgt := 544) hx hb d_Law_law_60 (by decide) (by decide) (by decide) (by decide) ?_
        skip
        refine lv_aload_n hx hb d_Law_law_544 rfl (lv_at hl 2 rfl) ?_
        refine lv_aload_n hx hb d_Law_law_545 rfl (lv_at hl 1 rfl) ?_
        refine lv_iload hx hb d_Law_law_546 (lv_at hl 0 rfl) ?_
        refine lv_iconst (v := 1) hx hb d_Law_law_548 (by decide) ?_
        refine lv_iadd hx hb d_Law_law_549 ?_
        refine va_sld hx hb hX hbl hbA hB.2.2.2.1 (zl_in (t := 1) hL h2 (by decide) c_50) d_Law_law_550 ?_
        rw [← ex1]
        refine lv_aload_n hx hb d_Law_law_551 rfl (lv_at hl 1 rfl) ?_
        refine lv_iload hx hb d_Law_law_552 (lv_at hl 0 rfl) ?_
        refine lv_iconst (v := 2) hx hb d_Law_law_554 (by decide) ?_
        refine lv_iadd hx hb d_Law_law_555 ?_
        refine va_sld hx hb hX hbl hbA hB.2.2.2.1 (zl_in (t := 2) hL h2 (by decide) c_50) d_Law_law_556 ?_
        rw [← ex2]
        refine lv_i2l (v := x2.toInt64) hx hb d_Law_law_557 rfl ?_
        refine lv_bipush (v := 32) hx hb d_Law_law_558 (by decide) ?_
        refine lv_lshl (v := x2.toInt64 <<< ((32 : Int32).toInt64 &&& 63)) hx hb d_Law_law_560 rfl ?_
        refine lv_aload_n hx hb d_Law_law_561 rfl (lv_at hl 1 rfl) ?_
        refine lv_iload hx hb d_Law_law_562 (lv_at hl 0 rfl) ?_
        refine lv_iconst (v := 3) hx hb d_Law_law_564 (by decide) ?_
        refine lv_iadd hx hb d_Law_law_565 ?_
        refine va_sld hx hb hX hbl hbA hB.2.2.2.1 (zl_in (t := 3) hL h2 (by decide) c_50) d_Law_law_566 ?_
        rw [← ex3]
        refine lv_i2l (v := x3.toInt64) hx hb d_Law_law_567 rfl ?_
        refine lv_ldc2 (v := 4294967295) hx hb X.2.2.2.1 (X.2.2.2.2.ts _ kc_Law_65) d_Law_law_568 ?_
        refine lv_land hx hb d_Law_law_571 ?_
        refine lv_lor hx hb d_Law_law_572 ?_
        obtain ⟨t9, et9⟩ : ∃ y, y = (x2.toInt64 <<< ((32 : Int32).toInt64 &&& 63)) ||| (x3.toInt64 &&& 4294967295) := ⟨_, rfl⟩
        rw [← et9]
        refine lv_aload_n hx hb d_Law_law_573 rfl (lv_at hl 4 rfl) ?_
        obtain ⟨hx0, hq0, hcode, hval, hj⟩ := hJ.run mi ml x1 t9 hj
        obtain ⟨w9, G9, g1, g2, g3, g4, g5, g6, g7⟩ := hx0
        obtain ⟨w8, w7, G8, f1, f2, f3, f4, f5, f6⟩ := hq0
        refine zh_call X Zx (zl_Z Zz hB) hB ms_Law_89 (c_Law_run hTr hn hs ho z (zl_A hB) mi ml x1 t9 w9 g1 g2 G9 g3 g4 g5 g6 g7) rfl hl.1 ⟨Nat.le_of_ble_eq_true rfl, Nat.le_of_ble_eq_true rfl⟩ rfl (Nat.le_of_ble_eq_true rfl) ⟨(by show 300 + j + 1 ≤ 601024; omega), (by show 4000 + j + 6 ≤ 7293000; omega)⟩ d_Law_law_574 (fun H locs hB => ?_)
        refine lv_istore (lv' := [(5, .int (zh_c zh_k1 (p_run n mi ml x1 t9))), (4, .int (nI j)), (0, .ref b), (1, .ref (ad 0)), (2, .ref (ad 32)), (3, .ref (ad 30))]) hx hb d_Law_law_577 hl (by decide) rfl (fun ls hl => ?_)
        refine lv_aload_n hx hb d_Law_law_579 rfl (lv_at hl 4 rfl) ?_
        refine lv_aload_n hx hb d_Law_law_580 rfl (lv_at hl 2 rfl) ?_
        refine lv_iload hx hb d_Law_law_581 (lv_at hl 1 rfl) ?_
        refine lv_iconst (v := 1) hx hb d_Law_law_583 (by decide) ?_
        refine lv_iadd hx hb d_Law_law_584 ?_
        refine va_sld hx hb hX hbl hbA hB.2.2.2.1 (zl_in (t := 1) hL h2 (by decide) c_50) d_Law_law_585 ?_
        rw [← ex1]
        refine lv_aload_n hx hb d_Law_law_586 rfl (lv_at hl 2 rfl) ?_
        refine lv_iload hx hb d_Law_law_587 (lv_at hl 1 rfl) ?_
        refine lv_iconst (v := 2) hx hb d_Law_law_589 (by decide) ?_
        refine lv_iadd hx hb d_Law_law_590 ?_
        refine va_sld hx hb hX hbl hbA hB.2.2.2.1 (zl_in (t := 2) hL h2 (by decide) c_50) d_Law_law_591 ?_
        rw [← ex2]
        refine lv_i2l (v := x2.toInt64) hx hb d_Law_law_592 rfl ?_
        refine lv_bipush (v := 32) hx hb d_Law_law_593 (by decide) ?_
        refine lv_lshl (v := x2.toInt64 <<< ((32 : Int32).toInt64 &&& 63)) hx hb d_Law_law_595 rfl ?_
        refine lv_aload_n hx hb d_Law_law_596 rfl (lv_at hl 2 rfl) ?_
        refine lv_iload hx hb d_Law_law_597 (lv_at hl 1 rfl) ?_
        refine lv_iconst (v := 3) hx hb d_Law_law_599 (by decide) ?_
        refine lv_iadd hx hb d_Law_law_600 ?_
        refine va_sld hx hb hX hbl hbA hB.2.2.2.1 (zl_in (t := 3) hL h2 (by decide) c_50) d_Law_law_601 ?_
        rw [← ex3]
        refine lv_i2l (v := x3.toInt64) hx hb d_Law_law_602 rfl ?_
        refine lv_ldc2 (v := 4294967295) hx hb X.2.2.2.1 (X.2.2.2.2.ts _ kc_Law_65) d_Law_law_603 ?_
        refine lv_land hx hb d_Law_law_606 ?_
        refine lv_lor hx hb d_Law_law_607 ?_
        rw [← et9]
        refine zw_callVr X hB mv_Law_92 32 (hm 32 _ rfl) rfl (c_Model_run hm (z + zh_z (p_run n mi ml x1 t9)) (zh_i mi (p_run n mi ml x1 t9)) (zh_l ml (p_run n mi ml x1 t9)) x1 t9 hn f1 w8 f2 f3 w7 f4 G8 f5 f6) rfl hl.1 ⟨Nat.le_of_ble_eq_true rfl, Nat.le_of_ble_eq_true rfl⟩ rfl (Nat.le_of_ble_eq_true rfl) ⟨(by show 300 + j + 1 + 0 ≤ 601024; omega), (by show 4000 + j + 6 + 0 ≤ 7293000; omega)⟩ d_Law_law_608 (fun H locs hB => ?_)
        refine lv_istore (lv' := [(6, .int ((q_run x1 t9 (zh_i mi (p_run n mi ml x1 t9)) (zh_l ml (p_run n mi ml x1 t9))).1)), (5, .int (zh_c zh_k1 (p_run n mi ml x1 t9))), (4, .int (nI j)), (0, .ref b), (1, .ref (ad 0)), (2, .ref (ad 32)), (3, .ref (ad 30))]) hx hb d_Law_law_611 hl (by decide) rfl (fun ls hl => ?_)
        refine lv_aload_n hx hb d_Law_law_613 rfl (lv_at hl 5 rfl) ?_
        refine zw_callVr X hB mv_Law_71 32 (hm 32 _ rfl) rfl (c_Model_thrown hm (z + zh_z (p_run n mi ml x1 t9)) ((q_run x1 t9 (zh_i mi (p_run n mi ml x1 t9)) (zh_l ml (p_run n mi ml x1 t9))).2.1) ((q_run x1 t9 (zh_i mi (p_run n mi ml x1 t9)) (zh_l ml (p_run n mi ml x1 t9))).2.2)) rfl hl.1 ⟨Nat.le_of_ble_eq_true rfl, Nat.le_of_ble_eq_true rfl⟩ rfl (Nat.le_of_ble_eq_true rfl) ⟨(by show 300 + j + 1 + 0 + 0 ≤ 601024; omega), (by show 4000 + j + 6 + 0 + 0 ≤ 7293000; omega)⟩ d_Law_law_614 (fun H locs hB => ?_)
        refine lv_iload hx hb d_Law_law_617 (lv_at hl 1 rfl) ?_
        refine lv_icmp_eq (tgt := 624) hx hb d_Law_law_619 (by decide) (fun c_619 => ?_) (fun c_619 => ?_)
        · refine lv_iload hx hb d_Law_law_624 (lv_at hl 1 rfl) ?_
          skip
          refine lv_if_ne (tgt := 641) hx hb d_Law_law_626 (by decide) (fun c_626 => ?_) (fun c_626 => ?_)
          · refine lv_goto (tgt := 915) hx hb d_Law_law_641 (by decide) ?_
            refine lv_iinc (v := nI (j + 6)) (lv' := [(4, .int (nI (j + 6))), (6, .int ((q_run x1 t9 (zh_i mi (p_run n mi ml x1 t9)) (zh_l ml (p_run n mi ml x1 t9))).1)), (5, .int (zh_c zh_k1 (p_run n mi ml x1 t9))), (0, .ref b), (1, .ref (ad 0)), (2, .ref (ad 32)), (3, .ref (ad 30))]) hx hb d_Law_law_915 hl (k := 2) rfl (show nI j + 6 = nI (j + 6) from nI_add j 6) (by decide) rfl (fun ls hl => ?_)
            refine lv_goto (tgt := 43) hx hb d_Law_law_918 (by decide) ?_
            refine zw_wide (k := 300 + (j + 6)) (n := 4000 + (j + 6)) (by omega) (by omega) ?_
            exact ih (j + 6) _ _ _ H locs ls (by omega) (by omega) hj hB (lv_sub hl [0, 3, 4, 5, 6] rfl)
          · have hzero := c_626
            refine lv_aload_n hx hb d_Law_law_629 rfl (lv_at hl 6 rfl) ?_
            refine lv_iconst (v := 0) hx hb d_Law_law_630 (by decide) ?_
            refine zw_lald X hB 30 ho zh_01 d_Law_law_631 ?_
            refine lv_iload hx hb d_Law_law_632 (lv_at hl 0 rfl) ?_
            refine lv_i2l (v := ((q_run x1 t9 (zh_i mi (p_run n mi ml x1 t9)) (zh_l ml (p_run n mi ml x1 t9))).1).toInt64) hx hb d_Law_law_634 rfl ?_
            refine W.lcmp hx hb d_Law_law_635 ?_
            refine lv_if_eq (tgt := 641) hx hb d_Law_law_636 (by decide) (fun c_636 => ?_) (fun c_636 => ?_)
            · refine lv_goto (tgt := 915) hx hb d_Law_law_641 (by decide) ?_
              refine lv_iinc (v := nI (j + 6)) (lv' := [(4, .int (nI (j + 6))), (6, .int ((q_run x1 t9 (zh_i mi (p_run n mi ml x1 t9)) (zh_l ml (p_run n mi ml x1 t9))).1)), (5, .int (zh_c zh_k1 (p_run n mi ml x1 t9))), (0, .ref b), (1, .ref (ad 0)), (2, .ref (ad 32)), (3, .ref (ad 30))]) hx hb d_Law_law_915 hl (k := 2) rfl (show nI j + 6 = nI (j + 6) from nI_add j 6) (by decide) rfl (fun ls hl => ?_)
              refine lv_goto (tgt := 43) hx hb d_Law_law_918 (by decide) ?_
              refine zw_wide (k := 300 + (j + 6)) (n := 4000 + (j + 6)) (by omega) (by omega) ?_
              exact ih (j + 6) _ _ _ H locs ls (by omega) (by omega) hj hB (lv_sub hl [0, 3, 4, 5, 6] rfl)
            · exact absurd (zl_cmp (hval hzero)) c_636
        · exact absurd hcode c_619
      by_cases hk_6 : y0 = 6
      · subst hk_6
        refine lv_tableIn (off := 584) (tgt := 644) hx hb d_Law_law_60 (by decide) (by decide) (by decide) (by decide) ?_
        skip
        refine lv_aload_n hx hb d_Law_law_644 rfl (lv_at hl 2 rfl) ?_
        refine lv_aload_n hx hb d_Law_law_645 rfl (lv_at hl 1 rfl) ?_
        refine lv_iload hx hb d_Law_law_646 (lv_at hl 0 rfl) ?_
        refine lv_iconst (v := 1) hx hb d_Law_law_648 (by decide) ?_
        refine lv_iadd hx hb d_Law_law_649 ?_
        refine va_sld hx hb hX hbl hbA hB.2.2.2.1 (zl_in (t := 1) hL h2 (by decide) c_50) d_Law_law_650 ?_
        rw [← ex1]
        refine lv_aload_n hx hb d_Law_law_651 rfl (lv_at hl 4 rfl) ?_
        obtain ⟨hx0, hq0, hcode, hval, hj⟩ := hJ.at mi ml x1 hj
        refine zh_call X Zx (zl_Z Zz hB) hB ms_Law_93 (c_Law_at hTr hn hs ho z (zl_A hB) mi ml x1 hx0) rfl hl.1 ⟨Nat.le_of_ble_eq_true rfl, Nat.le_of_ble_eq_true rfl⟩ rfl (Nat.le_of_ble_eq_true rfl) ⟨(by show 300 + j + 1 ≤ 601024; omega), (by show 4000 + j + 6 ≤ 7293000; omega)⟩ d_Law_law_652 (fun H locs hB => ?_)
        refine lv_istore (lv' := [(5, .int (zh_c zh_k (p_at mi ml x1))), (4, .int (nI j)), (0, .ref b), (1, .ref (ad 0)), (2, .ref (ad 32)), (3, .ref (ad 30))]) hx hb d_Law_law_655 hl (by decide) rfl (fun ls hl => ?_)
        refine lv_aload_n hx hb d_Law_law_657 rfl (lv_at hl 4 rfl) ?_
        refine lv_aload_n hx hb d_Law_law_658 rfl (lv_at hl 2 rfl) ?_
        refine lv_iload hx hb d_Law_law_659 (lv_at hl 1 rfl) ?_
        refine lv_iconst (v := 1) hx hb d_Law_law_661 (by decide) ?_
        refine lv_iadd hx hb d_Law_law_662 ?_
        refine va_sld hx hb hX hbl hbA hB.2.2.2.1 (zl_in (t := 1) hL h2 (by decide) c_50) d_Law_law_663 ?_
        rw [← ex1]
        refine zw_callVr X hB mv_Law_95 32 (hm 32 _ rfl) rfl (c_Model_at hm (z + zh_z (p_at mi ml x1)) (zh_i mi (p_at mi ml x1)) (zh_l ml (p_at mi ml x1)) x1 hq0) rfl hl.1 ⟨Nat.le_of_ble_eq_true rfl, Nat.le_of_ble_eq_true rfl⟩ rfl (Nat.le_of_ble_eq_true rfl) ⟨(by show 300 + j + 1 + 0 ≤ 601024; omega), (by show 4000 + j + 6 + 0 ≤ 7293000; omega)⟩ d_Law_law_664 (fun H locs hB => ?_)
        refine lv_lstore (lv' := [(6, .long ((q_at (zh_i mi (p_at mi ml x1)) (zh_l ml (p_at mi ml x1)) x1).1)), (5, .int (zh_c zh_k (p_at mi ml x1))), (4, .int (nI j)), (0, .ref b), (1, .ref (ad 0)), (2, .ref (ad 32)), (3, .ref (ad 30))]) hx hb d_Law_law_667 hl (by decide) rfl (fun ls hl => ?_)
        refine lv_aload_n hx hb d_Law_law_669 rfl (lv_at hl 5 rfl) ?_
        refine zw_callVr X hB mv_Law_71 32 (hm 32 _ rfl) rfl (c_Model_thrown hm (z + zh_z (p_at mi ml x1)) ((q_at (zh_i mi (p_at mi ml x1)) (zh_l ml (p_at mi ml x1)) x1).2) (zh_l ml (p_at mi ml x1))) rfl hl.1 ⟨Nat.le_of_ble_eq_true rfl, Nat.le_of_ble_eq_true rfl⟩ rfl (Nat.le_of_ble_eq_true rfl) ⟨(by show 300 + j + 1 + 0 + 0 ≤ 601024; omega), (by show 4000 + j + 6 + 0 + 0 ≤ 7293000; omega)⟩ d_Law_law_670 (fun H locs hB => ?_)
        refine lv_iload hx hb d_Law_law_673 (lv_at hl 1 rfl) ?_
        refine lv_icmp_eq (tgt := 680) hx hb d_Law_law_675 (by decide) (fun c_675 => ?_) (fun c_675 => ?_)
        · refine lv_iload hx hb d_Law_law_680 (lv_at hl 1 rfl) ?_
          skip
          refine lv_if_ne (tgt := 696) hx hb d_Law_law_682 (by decide) (fun c_682 => ?_) (fun c_682 => ?_)
          · refine lv_goto (tgt := 915) hx hb d_Law_law_696 (by decide) ?_
            refine lv_iinc (v := nI (j + 6)) (lv' := [(4, .int (nI (j + 6))), (6, .long ((q_at (zh_i mi (p_at mi ml x1)) (zh_l ml (p_at mi ml x1)) x1).1)), (5, .int (zh_c zh_k (p_at mi ml x1))), (0, .ref b), (1, .ref (ad 0)), (2, .ref (ad 32)), (3, .ref (ad 30))]) hx hb d_Law_law_915 hl (k := 2) rfl (show nI j + 6 = nI (j + 6) from nI_add j 6) (by decide) rfl (fun ls hl => ?_)
            refine lv_goto (tgt := 43) hx hb d_Law_law_918 (by decide) ?_
            refine zw_wide (k := 300 + (j + 6)) (n := 4000 + (j + 6)) (by omega) (by omega) ?_
            exact ih (j + 6) _ _ _ H locs ls (by omega) (by omega) hj hB (lv_sub hl [0, 3, 4, 5, 6] rfl)
          · have hzero := c_682
            refine lv_aload_n hx hb d_Law_law_685 rfl (lv_at hl 6 rfl) ?_
            refine lv_iconst (v := 0) hx hb d_Law_law_686 (by decide) ?_
            refine zw_lald X hB 30 ho zh_01 d_Law_law_687 ?_
            refine lv_lload hx hb d_Law_law_688 (lv_at hl 0 rfl) ?_
            refine W.lcmp hx hb d_Law_law_690 ?_
            refine lv_if_eq (tgt := 696) hx hb d_Law_law_691 (by decide) (fun c_691 => ?_) (fun c_691 => ?_)
            · refine lv_goto (tgt := 915) hx hb d_Law_law_696 (by decide) ?_
              refine lv_iinc (v := nI (j + 6)) (lv' := [(4, .int (nI (j + 6))), (6, .long ((q_at (zh_i mi (p_at mi ml x1)) (zh_l ml (p_at mi ml x1)) x1).1)), (5, .int (zh_c zh_k (p_at mi ml x1))), (0, .ref b), (1, .ref (ad 0)), (2, .ref (ad 32)), (3, .ref (ad 30))]) hx hb d_Law_law_915 hl (k := 2) rfl (show nI j + 6 = nI (j + 6) from nI_add j 6) (by decide) rfl (fun ls hl => ?_)
              refine lv_goto (tgt := 43) hx hb d_Law_law_918 (by decide) ?_
              refine zw_wide (k := 300 + (j + 6)) (n := 4000 + (j + 6)) (by omega) (by omega) ?_
              exact ih (j + 6) _ _ _ H locs ls (by omega) (by omega) hj hB (lv_sub hl [0, 3, 4, 5, 6] rfl)
            · exact absurd (zl_cmp (hval hzero)) c_691
        · exact absurd hcode c_675
      by_cases hk_7 : y0 = 7
      · subst hk_7
        refine lv_tableIn (off := 639) (tgt := 699) hx hb d_Law_law_60 (by decide) (by decide) (by decide) (by decide) ?_
        skip
        refine lv_aload_n hx hb d_Law_law_699 rfl (lv_at hl 2 rfl) ?_
        refine lv_aload_n hx hb d_Law_law_700 rfl (lv_at hl 1 rfl) ?_
        refine lv_iload hx hb d_Law_law_701 (lv_at hl 0 rfl) ?_
        refine lv_iconst (v := 1) hx hb d_Law_law_703 (by decide) ?_
        refine lv_iadd hx hb d_Law_law_704 ?_
        refine va_sld hx hb hX hbl hbA hB.2.2.2.1 (zl_in (t := 1) hL h2 (by decide) c_50) d_Law_law_705 ?_
        rw [← ex1]
        refine lv_aload_n hx hb d_Law_law_706 rfl (lv_at hl 4 rfl) ?_
        obtain ⟨hx0, hq0, hcode, hval, hj⟩ := hJ.order mi ml x1 hj
        refine zh_call X Zx (zl_Z Zz hB) hB ms_Law_96 (c_Law_order hTr hn hs ho z (zl_A hB) mi ml x1 hx0) rfl hl.1 ⟨Nat.le_of_ble_eq_true rfl, Nat.le_of_ble_eq_true rfl⟩ rfl (Nat.le_of_ble_eq_true rfl) ⟨(by show 300 + j + 1 ≤ 601024; omega), (by show 4000 + j + 6 ≤ 7293000; omega)⟩ d_Law_law_707 (fun H locs hB => ?_)
        refine lv_istore (lv' := [(5, .int (zh_c zh_k (p_order mi ml x1))), (4, .int (nI j)), (0, .ref b), (1, .ref (ad 0)), (2, .ref (ad 32)), (3, .ref (ad 30))]) hx hb d_Law_law_710 hl (by decide) rfl (fun ls hl => ?_)
        refine lv_aload_n hx hb d_Law_law_712 rfl (lv_at hl 4 rfl) ?_
        refine lv_aload_n hx hb d_Law_law_713 rfl (lv_at hl 2 rfl) ?_
        refine lv_iload hx hb d_Law_law_714 (lv_at hl 1 rfl) ?_
        refine lv_iconst (v := 1) hx hb d_Law_law_716 (by decide) ?_
        refine lv_iadd hx hb d_Law_law_717 ?_
        refine va_sld hx hb hX hbl hbA hB.2.2.2.1 (zl_in (t := 1) hL h2 (by decide) c_50) d_Law_law_718 ?_
        rw [← ex1]
        refine zw_callVr X hB mv_Law_98 32 (hm 32 _ rfl) rfl (c_Model_order hm (z + zh_z (p_order mi ml x1)) (zh_i mi (p_order mi ml x1)) (zh_l ml (p_order mi ml x1)) x1 hq0) rfl hl.1 ⟨Nat.le_of_ble_eq_true rfl, Nat.le_of_ble_eq_true rfl⟩ rfl (Nat.le_of_ble_eq_true rfl) ⟨(by show 300 + j + 1 + 0 ≤ 601024; omega), (by show 4000 + j + 6 + 0 ≤ 7293000; omega)⟩ d_Law_law_719 (fun H locs hB => ?_)
        refine lv_istore (lv' := [(6, .int ((q_order (zh_i mi (p_order mi ml x1)) x1).1)), (5, .int (zh_c zh_k (p_order mi ml x1))), (4, .int (nI j)), (0, .ref b), (1, .ref (ad 0)), (2, .ref (ad 32)), (3, .ref (ad 30))]) hx hb d_Law_law_722 hl (by decide) rfl (fun ls hl => ?_)
        refine lv_aload_n hx hb d_Law_law_724 rfl (lv_at hl 5 rfl) ?_
        refine zw_callVr X hB mv_Law_71 32 (hm 32 _ rfl) rfl (c_Model_thrown hm (z + zh_z (p_order mi ml x1)) ((q_order (zh_i mi (p_order mi ml x1)) x1).2) (zh_l ml (p_order mi ml x1))) rfl hl.1 ⟨Nat.le_of_ble_eq_true rfl, Nat.le_of_ble_eq_true rfl⟩ rfl (Nat.le_of_ble_eq_true rfl) ⟨(by show 300 + j + 1 + 0 + 0 ≤ 601024; omega), (by show 4000 + j + 6 + 0 + 0 ≤ 7293000; omega)⟩ d_Law_law_725 (fun H locs hB => ?_)
        refine lv_iload hx hb d_Law_law_728 (lv_at hl 1 rfl) ?_
        refine lv_icmp_eq (tgt := 735) hx hb d_Law_law_730 (by decide) (fun c_730 => ?_) (fun c_730 => ?_)
        · refine lv_iload hx hb d_Law_law_735 (lv_at hl 1 rfl) ?_
          skip
          refine lv_if_ne (tgt := 752) hx hb d_Law_law_737 (by decide) (fun c_737 => ?_) (fun c_737 => ?_)
          · refine lv_goto (tgt := 915) hx hb d_Law_law_752 (by decide) ?_
            refine lv_iinc (v := nI (j + 6)) (lv' := [(4, .int (nI (j + 6))), (6, .int ((q_order (zh_i mi (p_order mi ml x1)) x1).1)), (5, .int (zh_c zh_k (p_order mi ml x1))), (0, .ref b), (1, .ref (ad 0)), (2, .ref (ad 32)), (3, .ref (ad 30))]) hx hb d_Law_law_915 hl (k := 2) rfl (show nI j + 6 = nI (j + 6) from nI_add j 6) (by decide) rfl (fun ls hl => ?_)
            refine lv_goto (tgt := 43) hx hb d_Law_law_918 (by decide) ?_
            refine zw_wide (k := 300 + (j + 6)) (n := 4000 + (j + 6)) (by omega) (by omega) ?_
            exact ih (j + 6) _ _ _ H locs ls (by omega) (by omega) hj hB (lv_sub hl [0, 3, 4, 5, 6] rfl)
          · have hzero := c_737
            refine lv_aload_n hx hb d_Law_law_740 rfl (lv_at hl 6 rfl) ?_
            refine lv_iconst (v := 0) hx hb d_Law_law_741 (by decide) ?_
            refine zw_lald X hB 30 ho zh_01 d_Law_law_742 ?_
            refine lv_iload hx hb d_Law_law_743 (lv_at hl 0 rfl) ?_
            refine lv_i2l (v := ((q_order (zh_i mi (p_order mi ml x1)) x1).1).toInt64) hx hb d_Law_law_745 rfl ?_
            refine W.lcmp hx hb d_Law_law_746 ?_
            refine lv_if_eq (tgt := 752) hx hb d_Law_law_747 (by decide) (fun c_747 => ?_) (fun c_747 => ?_)
            · refine lv_goto (tgt := 915) hx hb d_Law_law_752 (by decide) ?_
              refine lv_iinc (v := nI (j + 6)) (lv' := [(4, .int (nI (j + 6))), (6, .int ((q_order (zh_i mi (p_order mi ml x1)) x1).1)), (5, .int (zh_c zh_k (p_order mi ml x1))), (0, .ref b), (1, .ref (ad 0)), (2, .ref (ad 32)), (3, .ref (ad 30))]) hx hb d_Law_law_915 hl (k := 2) rfl (show nI j + 6 = nI (j + 6) from nI_add j 6) (by decide) rfl (fun ls hl => ?_)
              refine lv_goto (tgt := 43) hx hb d_Law_law_918 (by decide) ?_
              refine zw_wide (k := 300 + (j + 6)) (n := 4000 + (j + 6)) (by omega) (by omega) ?_
              exact ih (j + 6) _ _ _ H locs ls (by omega) (by omega) hj hB (lv_sub hl [0, 3, 4, 5, 6] rfl)
            · exact absurd (zl_cmp (hval hzero)) c_747
        · exact absurd hcode c_730
      by_cases hk_8 : y0 = 8
      · subst hk_8
        refine lv_tableIn (off := 695) (tgt := 755) hx hb d_Law_law_60 (by decide) (by decide) (by decide) (by decide) ?_
        skip
        refine lv_aload_n hx hb d_Law_law_755 rfl (lv_at hl 2 rfl) ?_
        refine lv_aload_n hx hb d_Law_law_756 rfl (lv_at hl 1 rfl) ?_
        refine lv_iload hx hb d_Law_law_757 (lv_at hl 0 rfl) ?_
        refine lv_iconst (v := 1) hx hb d_Law_law_759 (by decide) ?_
        refine lv_iadd hx hb d_Law_law_760 ?_
        refine va_sld hx hb hX hbl hbA hB.2.2.2.1 (zl_in (t := 1) hL h2 (by decide) c_50) d_Law_law_761 ?_
        rw [← ex1]
        refine lv_aload_n hx hb d_Law_law_762 rfl (lv_at hl 4 rfl) ?_
        obtain ⟨hx0, hq0, hcode, hval, hj⟩ := hJ.begun mi ml x1 hj
        refine zh_call X Zx (zl_Z Zz hB) hB ms_Law_99 (c_Law_begun hTr hn hs ho z (zl_A hB) mi ml x1 hx0) rfl hl.1 ⟨Nat.le_of_ble_eq_true rfl, Nat.le_of_ble_eq_true rfl⟩ rfl (Nat.le_of_ble_eq_true rfl) ⟨(by show 300 + j + 1 ≤ 601024; omega), (by show 4000 + j + 6 ≤ 7293000; omega)⟩ d_Law_law_763 (fun H locs hB => ?_)
        refine lv_istore (lv' := [(5, .int (zh_c zh_k (p_begun mi ml x1))), (4, .int (nI j)), (0, .ref b), (1, .ref (ad 0)), (2, .ref (ad 32)), (3, .ref (ad 30))]) hx hb d_Law_law_766 hl (by decide) rfl (fun ls hl => ?_)
        refine lv_aload_n hx hb d_Law_law_768 rfl (lv_at hl 4 rfl) ?_
        refine lv_aload_n hx hb d_Law_law_769 rfl (lv_at hl 2 rfl) ?_
        refine lv_iload hx hb d_Law_law_770 (lv_at hl 1 rfl) ?_
        refine lv_iconst (v := 1) hx hb d_Law_law_772 (by decide) ?_
        refine lv_iadd hx hb d_Law_law_773 ?_
        refine va_sld hx hb hX hbl hbA hB.2.2.2.1 (zl_in (t := 1) hL h2 (by decide) c_50) d_Law_law_774 ?_
        rw [← ex1]
        refine zw_callVr X hB mv_Law_101 32 (hm 32 _ rfl) rfl (c_Model_begun hm (z + zh_z (p_begun mi ml x1)) (zh_i mi (p_begun mi ml x1)) (zh_l ml (p_begun mi ml x1)) x1 hq0) rfl hl.1 ⟨Nat.le_of_ble_eq_true rfl, Nat.le_of_ble_eq_true rfl⟩ rfl (Nat.le_of_ble_eq_true rfl) ⟨(by show 300 + j + 1 + 0 ≤ 601024; omega), (by show 4000 + j + 6 + 0 ≤ 7293000; omega)⟩ d_Law_law_775 (fun H locs hB => ?_)
        refine lv_istore (lv' := [(6, .int ((q_begun (zh_i mi (p_begun mi ml x1)) x1).1)), (5, .int (zh_c zh_k (p_begun mi ml x1))), (4, .int (nI j)), (0, .ref b), (1, .ref (ad 0)), (2, .ref (ad 32)), (3, .ref (ad 30))]) hx hb d_Law_law_778 hl (by decide) rfl (fun ls hl => ?_)
        refine lv_aload_n hx hb d_Law_law_780 rfl (lv_at hl 5 rfl) ?_
        refine zw_callVr X hB mv_Law_71 32 (hm 32 _ rfl) rfl (c_Model_thrown hm (z + zh_z (p_begun mi ml x1)) ((q_begun (zh_i mi (p_begun mi ml x1)) x1).2) (zh_l ml (p_begun mi ml x1))) rfl hl.1 ⟨Nat.le_of_ble_eq_true rfl, Nat.le_of_ble_eq_true rfl⟩ rfl (Nat.le_of_ble_eq_true rfl) ⟨(by show 300 + j + 1 + 0 + 0 ≤ 601024; omega), (by show 4000 + j + 6 + 0 + 0 ≤ 7293000; omega)⟩ d_Law_law_781 (fun H locs hB => ?_)
        refine lv_iload hx hb d_Law_law_784 (lv_at hl 1 rfl) ?_
        refine lv_icmp_eq (tgt := 791) hx hb d_Law_law_786 (by decide) (fun c_786 => ?_) (fun c_786 => ?_)
        · refine lv_iload hx hb d_Law_law_791 (lv_at hl 1 rfl) ?_
          skip
          refine lv_if_ne (tgt := 808) hx hb d_Law_law_793 (by decide) (fun c_793 => ?_) (fun c_793 => ?_)
          · refine lv_goto (tgt := 915) hx hb d_Law_law_808 (by decide) ?_
            refine lv_iinc (v := nI (j + 6)) (lv' := [(4, .int (nI (j + 6))), (6, .int ((q_begun (zh_i mi (p_begun mi ml x1)) x1).1)), (5, .int (zh_c zh_k (p_begun mi ml x1))), (0, .ref b), (1, .ref (ad 0)), (2, .ref (ad 32)), (3, .ref (ad 30))]) hx hb d_Law_law_915 hl (k := 2) rfl (show nI j + 6 = nI (j + 6) from nI_add j 6) (by decide) rfl (fun ls hl => ?_)
            refine lv_goto (tgt := 43) hx hb d_Law_law_918 (by decide) ?_
            refine zw_wide (k := 300 + (j + 6)) (n := 4000 + (j + 6)) (by omega) (by omega) ?_
            exact ih (j + 6) _ _ _ H locs ls (by omega) (by omega) hj hB (lv_sub hl [0, 3, 4, 5, 6] rfl)
          · have hzero := c_793
            refine lv_aload_n hx hb d_Law_law_796 rfl (lv_at hl 6 rfl) ?_
            refine lv_iconst (v := 0) hx hb d_Law_law_797 (by decide) ?_
            refine zw_lald X hB 30 ho zh_01 d_Law_law_798 ?_
            refine lv_iload hx hb d_Law_law_799 (lv_at hl 0 rfl) ?_
            refine lv_i2l (v := ((q_begun (zh_i mi (p_begun mi ml x1)) x1).1).toInt64) hx hb d_Law_law_801 rfl ?_
            refine W.lcmp hx hb d_Law_law_802 ?_
            refine lv_if_eq (tgt := 808) hx hb d_Law_law_803 (by decide) (fun c_803 => ?_) (fun c_803 => ?_)
            · refine lv_goto (tgt := 915) hx hb d_Law_law_808 (by decide) ?_
              refine lv_iinc (v := nI (j + 6)) (lv' := [(4, .int (nI (j + 6))), (6, .int ((q_begun (zh_i mi (p_begun mi ml x1)) x1).1)), (5, .int (zh_c zh_k (p_begun mi ml x1))), (0, .ref b), (1, .ref (ad 0)), (2, .ref (ad 32)), (3, .ref (ad 30))]) hx hb d_Law_law_915 hl (k := 2) rfl (show nI j + 6 = nI (j + 6) from nI_add j 6) (by decide) rfl (fun ls hl => ?_)
              refine lv_goto (tgt := 43) hx hb d_Law_law_918 (by decide) ?_
              refine zw_wide (k := 300 + (j + 6)) (n := 4000 + (j + 6)) (by omega) (by omega) ?_
              exact ih (j + 6) _ _ _ H locs ls (by omega) (by omega) hj hB (lv_sub hl [0, 3, 4, 5, 6] rfl)
            · exact absurd (zl_cmp (hval hzero)) c_803
        · exact absurd hcode c_786
      by_cases hk_9 : y0 = 9
      · subst hk_9
        refine lv_tableIn (off := 751) (tgt := 811) hx hb d_Law_law_60 (by decide) (by decide) (by decide) (by decide) ?_
        skip
        refine lv_aload_n hx hb d_Law_law_811 rfl (lv_at hl 2 rfl) ?_
        refine lv_aload_n hx hb d_Law_law_812 rfl (lv_at hl 1 rfl) ?_
        refine lv_iload hx hb d_Law_law_813 (lv_at hl 0 rfl) ?_
        refine lv_iconst (v := 1) hx hb d_Law_law_815 (by decide) ?_
        refine lv_iadd hx hb d_Law_law_816 ?_
        refine va_sld hx hb hX hbl hbA hB.2.2.2.1 (zl_in (t := 1) hL h2 (by decide) c_50) d_Law_law_817 ?_
        rw [← ex1]
        refine lv_aload_n hx hb d_Law_law_818 rfl (lv_at hl 1 rfl) ?_
        refine lv_iload hx hb d_Law_law_819 (lv_at hl 0 rfl) ?_
        refine lv_iconst (v := 2) hx hb d_Law_law_821 (by decide) ?_
        refine lv_iadd hx hb d_Law_law_822 ?_
        refine va_sld hx hb hX hbl hbA hB.2.2.2.1 (zl_in (t := 2) hL h2 (by decide) c_50) d_Law_law_823 ?_
        rw [← ex2]
        refine lv_aload_n hx hb d_Law_law_824 rfl (lv_at hl 4 rfl) ?_
        obtain ⟨hx0, hq0, hcode, hval, hj⟩ := hJ.waited mi ml x1 x2 hj
        refine zh_call X Zx (zl_Z Zz hB) hB ms_Law_102 (c_Law_waited hTr hn hs ho z (zl_A hB) mi ml x1 x2 hx0) rfl hl.1 ⟨Nat.le_of_ble_eq_true rfl, Nat.le_of_ble_eq_true rfl⟩ rfl (Nat.le_of_ble_eq_true rfl) ⟨(by show 300 + j + 1 ≤ 601024; omega), (by show 4000 + j + 6 ≤ 7293000; omega)⟩ d_Law_law_825 (fun H locs hB => ?_)
        refine lv_istore (lv' := [(5, .int (zh_c zh_k (p_waited mi ml x1 x2))), (4, .int (nI j)), (0, .ref b), (1, .ref (ad 0)), (2, .ref (ad 32)), (3, .ref (ad 30))]) hx hb d_Law_law_828 hl (by decide) rfl (fun ls hl => ?_)
        refine lv_aload_n hx hb d_Law_law_830 rfl (lv_at hl 4 rfl) ?_
        refine lv_aload_n hx hb d_Law_law_831 rfl (lv_at hl 2 rfl) ?_
        refine lv_iload hx hb d_Law_law_832 (lv_at hl 1 rfl) ?_
        refine lv_iconst (v := 1) hx hb d_Law_law_834 (by decide) ?_
        refine lv_iadd hx hb d_Law_law_835 ?_
        refine va_sld hx hb hX hbl hbA hB.2.2.2.1 (zl_in (t := 1) hL h2 (by decide) c_50) d_Law_law_836 ?_
        rw [← ex1]
        refine lv_aload_n hx hb d_Law_law_837 rfl (lv_at hl 2 rfl) ?_
        refine lv_iload hx hb d_Law_law_838 (lv_at hl 1 rfl) ?_
        refine lv_iconst (v := 2) hx hb d_Law_law_840 (by decide) ?_
        refine lv_iadd hx hb d_Law_law_841 ?_
        refine va_sld hx hb hX hbl hbA hB.2.2.2.1 (zl_in (t := 2) hL h2 (by decide) c_50) d_Law_law_842 ?_
        rw [← ex2]
        refine zw_callVr X hB mv_Law_105 32 (hm 32 _ rfl) rfl (c_Model_waited hm (z + zh_z (p_waited mi ml x1 x2)) (zh_i mi (p_waited mi ml x1 x2)) (zh_l ml (p_waited mi ml x1 x2)) x1 x2 hq0) rfl hl.1 ⟨Nat.le_of_ble_eq_true rfl, Nat.le_of_ble_eq_true rfl⟩ rfl (Nat.le_of_ble_eq_true rfl) ⟨(by show 300 + j + 1 + 0 ≤ 601024; omega), (by show 4000 + j + 6 + 0 ≤ 7293000; omega)⟩ d_Law_law_843 (fun H locs hB => ?_)
        refine lv_istore (lv' := [(6, .int ((q_waited (zh_i mi (p_waited mi ml x1 x2)) x1 x2).1)), (5, .int (zh_c zh_k (p_waited mi ml x1 x2))), (4, .int (nI j)), (0, .ref b), (1, .ref (ad 0)), (2, .ref (ad 32)), (3, .ref (ad 30))]) hx hb d_Law_law_846 hl (by decide) rfl (fun ls hl => ?_)
        refine lv_aload_n hx hb d_Law_law_848 rfl (lv_at hl 5 rfl) ?_
        refine zw_callVr X hB mv_Law_71 32 (hm 32 _ rfl) rfl (c_Model_thrown hm (z + zh_z (p_waited mi ml x1 x2)) ((q_waited (zh_i mi (p_waited mi ml x1 x2)) x1 x2).2) (zh_l ml (p_waited mi ml x1 x2))) rfl hl.1 ⟨Nat.le_of_ble_eq_true rfl, Nat.le_of_ble_eq_true rfl⟩ rfl (Nat.le_of_ble_eq_true rfl) ⟨(by show 300 + j + 1 + 0 + 0 ≤ 601024; omega), (by show 4000 + j + 6 + 0 + 0 ≤ 7293000; omega)⟩ d_Law_law_849 (fun H locs hB => ?_)
        refine lv_iload hx hb d_Law_law_852 (lv_at hl 1 rfl) ?_
        refine lv_icmp_eq (tgt := 859) hx hb d_Law_law_854 (by decide) (fun c_854 => ?_) (fun c_854 => ?_)
        · refine lv_iload hx hb d_Law_law_859 (lv_at hl 1 rfl) ?_
          skip
          refine lv_if_ne (tgt := 876) hx hb d_Law_law_861 (by decide) (fun c_861 => ?_) (fun c_861 => ?_)
          · refine lv_goto (tgt := 915) hx hb d_Law_law_876 (by decide) ?_
            refine lv_iinc (v := nI (j + 6)) (lv' := [(4, .int (nI (j + 6))), (6, .int ((q_waited (zh_i mi (p_waited mi ml x1 x2)) x1 x2).1)), (5, .int (zh_c zh_k (p_waited mi ml x1 x2))), (0, .ref b), (1, .ref (ad 0)), (2, .ref (ad 32)), (3, .ref (ad 30))]) hx hb d_Law_law_915 hl (k := 2) rfl (show nI j + 6 = nI (j + 6) from nI_add j 6) (by decide) rfl (fun ls hl => ?_)
            refine lv_goto (tgt := 43) hx hb d_Law_law_918 (by decide) ?_
            refine zw_wide (k := 300 + (j + 6)) (n := 4000 + (j + 6)) (by omega) (by omega) ?_
            exact ih (j + 6) _ _ _ H locs ls (by omega) (by omega) hj hB (lv_sub hl [0, 3, 4, 5, 6] rfl)
          · have hzero := c_861
            refine lv_aload_n hx hb d_Law_law_864 rfl (lv_at hl 6 rfl) ?_
            refine lv_iconst (v := 0) hx hb d_Law_law_865 (by decide) ?_
            refine zw_lald X hB 30 ho zh_01 d_Law_law_866 ?_
            refine lv_iload hx hb d_Law_law_867 (lv_at hl 0 rfl) ?_
            refine lv_i2l (v := ((q_waited (zh_i mi (p_waited mi ml x1 x2)) x1 x2).1).toInt64) hx hb d_Law_law_869 rfl ?_
            refine W.lcmp hx hb d_Law_law_870 ?_
            refine lv_if_eq (tgt := 876) hx hb d_Law_law_871 (by decide) (fun c_871 => ?_) (fun c_871 => ?_)
            · refine lv_goto (tgt := 915) hx hb d_Law_law_876 (by decide) ?_
              refine lv_iinc (v := nI (j + 6)) (lv' := [(4, .int (nI (j + 6))), (6, .int ((q_waited (zh_i mi (p_waited mi ml x1 x2)) x1 x2).1)), (5, .int (zh_c zh_k (p_waited mi ml x1 x2))), (0, .ref b), (1, .ref (ad 0)), (2, .ref (ad 32)), (3, .ref (ad 30))]) hx hb d_Law_law_915 hl (k := 2) rfl (show nI j + 6 = nI (j + 6) from nI_add j 6) (by decide) rfl (fun ls hl => ?_)
              refine lv_goto (tgt := 43) hx hb d_Law_law_918 (by decide) ?_
              refine zw_wide (k := 300 + (j + 6)) (n := 4000 + (j + 6)) (by omega) (by omega) ?_
              exact ih (j + 6) _ _ _ H locs ls (by omega) (by omega) hj hB (lv_sub hl [0, 3, 4, 5, 6] rfl)
            · exact absurd (zl_cmp (hval hzero)) c_871
        · exact absurd hcode c_854
      by_cases hk_10 : y0 = 10
      · subst hk_10
        refine lv_tableIn (off := 819) (tgt := 879) hx hb d_Law_law_60 (by decide) (by decide) (by decide) (by decide) ?_
        skip
        refine lv_aload_n hx hb d_Law_law_879 rfl (lv_at hl 2 rfl) ?_
        refine lv_aload_n hx hb d_Law_law_880 rfl (lv_at hl 1 rfl) ?_
        refine lv_iload hx hb d_Law_law_881 (lv_at hl 0 rfl) ?_
        refine lv_iconst (v := 1) hx hb d_Law_law_883 (by decide) ?_
        refine lv_iadd hx hb d_Law_law_884 ?_
        refine va_sld hx hb hX hbl hbA hB.2.2.2.1 (zl_in (t := 1) hL h2 (by decide) c_50) d_Law_law_885 ?_
        rw [← ex1]
        refine zw_callVr X hB mv_Law_106 0 (hs 0 _ rfl) rfl (c_TS_told hn hs z mi ml x1) rfl hl.1 ⟨Nat.le_of_ble_eq_true rfl, Nat.le_of_ble_eq_true rfl⟩ rfl (Nat.le_of_ble_eq_true rfl) ⟨(by show 300 + j + 0 ≤ 601024; omega), (by show 4000 + j + 0 ≤ 7293000; omega)⟩ d_Law_law_886 (fun H locs hB => ?_)
        refine lv_aload_n hx hb d_Law_law_889 rfl (lv_at hl 3 rfl) ?_
        refine lv_aload_n hx hb d_Law_law_890 rfl (lv_at hl 1 rfl) ?_
        refine lv_iload hx hb d_Law_law_891 (lv_at hl 0 rfl) ?_
        refine lv_iconst (v := 1) hx hb d_Law_law_893 (by decide) ?_
        refine lv_iadd hx hb d_Law_law_894 ?_
        refine va_sld hx hb hX hbl hbA hB.2.2.2.1 (zl_in (t := 1) hL h2 (by decide) c_50) d_Law_law_895 ?_
        rw [← ex1]
        refine zw_callVr X hB mv_Law_109 32 (hm 32 _ rfl) rfl (c_Model_told hm z mi ml x1 hn (hJ.sh mi ml hj).2) rfl hl.1 ⟨Nat.le_of_ble_eq_true rfl, Nat.le_of_ble_eq_true rfl⟩ rfl (Nat.le_of_ble_eq_true rfl) ⟨(by show 300 + j + 0 + 0 ≤ 601024; omega), (by show 4000 + j + 0 + 0 ≤ 7293000; omega)⟩ d_Law_law_896 (fun H locs hB => ?_)
        refine lv_icmp_eq (tgt := 915) hx hb d_Law_law_899 (by decide) (fun c_899 => ?_) (fun c_899 => ?_)
        · refine lv_iinc (v := nI (j + 6)) (lv' := [(4, .int (nI (j + 6))), (0, .ref b), (1, .ref (ad 0)), (2, .ref (ad 32)), (3, .ref (ad 30))]) hx hb d_Law_law_915 hl (k := 0) rfl (show nI j + 6 = nI (j + 6) from nI_add j 6) (by decide) rfl (fun ls hl => ?_)
          refine lv_goto (tgt := 43) hx hb d_Law_law_918 (by decide) ?_
          refine zw_wide (k := 300 + (j + 6)) (n := 4000 + (j + 6)) (by omega) (by omega) ?_
          exact ih (j + 6) _ _ _ H locs ls (by omega) (by omega) (hJ.told mi ml x1 hj).2 hB (lv_sub hl [0, 1, 2, 3, 4] rfl)
        · exact absurd (hJ.told mi ml _ hj).1 c_899
      by_cases hk_11 : y0 = 11
      · subst hk_11
        refine lv_tableIn (off := 844) (tgt := 904) hx hb d_Law_law_60 (by decide) (by decide) (by decide) (by decide) ?_
        skip
        refine lv_aload_n hx hb d_Law_law_904 rfl (lv_at hl 2 rfl) ?_
        obtain ⟨e1, e2, hj⟩ := hJ.clear mi ml hj0
        refine zw_callVv X hB mv_Law_110 0 (hs 0 _ rfl) rfl (c_TS_clear hn hs z mi ml (hJ.sh mi ml hj0).1 e1 e2) rfl hl.1 ⟨Nat.le_of_ble_eq_true rfl, Nat.le_of_ble_eq_true rfl⟩ rfl (Nat.le_of_ble_eq_true rfl) ⟨(by show 300 + j + 0 ≤ 601024; omega), (by show 4000 + j + 0 ≤ 7293000; omega)⟩ d_Law_law_905 (fun H locs hB => ?_)
        refine lv_aload_n hx hb d_Law_law_908 rfl (lv_at hl 3 rfl) ?_
        refine zw_callVv X hB mv_Law_113 32 (hm 32 _ rfl) rfl (c_Model_clear hm z (p_clear n mi ml).1 (p_clear n mi ml).2) rfl hl.1 ⟨Nat.le_of_ble_eq_true rfl, Nat.le_of_ble_eq_true rfl⟩ rfl (Nat.le_of_ble_eq_true rfl) ⟨(by show 300 + j + 0 + 0 ≤ 601024; omega), (by show 4000 + j + 0 + 0 ≤ 7293000; omega)⟩ d_Law_law_909 (fun H locs hB => ?_)
        refine lv_goto (tgt := 915) hx hb d_Law_law_912 (by decide) ?_
        refine lv_iinc (v := nI (j + 6)) (lv' := [(4, .int (nI (j + 6))), (0, .ref b), (1, .ref (ad 0)), (2, .ref (ad 32)), (3, .ref (ad 30))]) hx hb d_Law_law_915 hl (k := 0) rfl (show nI j + 6 = nI (j + 6) from nI_add j 6) (by decide) rfl (fun ls hl => ?_)
        refine lv_goto (tgt := 43) hx hb d_Law_law_918 (by decide) ?_
        refine zw_wide (k := 300 + (j + 6)) (n := 4000 + (j + 6)) (by omega) (by omega) ?_
        exact ih (j + 6) _ _ _ H locs ls (by omega) (by omega) hj hB (lv_sub hl [0, 1, 2, 3, 4] rfl)
      refine lv_tableOut (tgt := 915) hx hb d_Law_law_60 (zt_out hk_0 hk_1 hk_2 hk_3 hk_4 hk_5 hk_6 hk_7 hk_8 hk_9 hk_10 hk_11) (by decide) ?_
      refine lv_iinc (v := nI (j + 6)) (lv' := [(4, .int (nI (j + 6))), (0, .ref b), (1, .ref (ad 0)), (2, .ref (ad 32)), (3, .ref (ad 30))]) hx hb d_Law_law_915 hl (k := 0) rfl (show nI j + 6 = nI (j + 6) from nI_add j 6) (by decide) rfl (fun ls hl => ?_)
      refine lv_goto (tgt := 43) hx hb d_Law_law_918 (by decide) ?_
      refine zw_wide (k := 300 + (j + 6)) (n := 4000 + (j + 6)) (by omega) (by omega) ?_
      exact ih (j + 6) _ _ _ H locs ls (by omega) (by omega) hj hB (lv_sub hl [0, 1, 2, 3, 4] rfl)
