theorem zd_law_0 : decode code 0 = .ok (.new 8, 3) := by decide +kernel
theorem zd_law_3 : decode code 3 = .ok (.dup, 1) := by decide +kernel
theorem zd_law_4 : decode code 4 = .ok (.invokespecial 72, 3) := by decide +kernel
theorem zd_law_7 : decode code 7 = .ok (.astore_n 1, 1) := by decide +kernel
theorem zd_law_8 : decode code 8 = .ok (.new 73, 3) := by decide +kernel
theorem zd_law_11 : decode code 11 = .ok (.dup, 1) := by decide +kernel
theorem zd_law_12 : decode code 12 = .ok (.invokespecial 75, 3) := by decide +kernel
theorem zd_law_15 : decode code 15 = .ok (.astore_n 2, 1) := by decide +kernel
theorem zd_law_16 : decode code 16 = .ok (.iconst 1, 1) := by decide +kernel
theorem zd_law_17 : decode code 17 = .ok (.newarray .long, 2) := by decide +kernel
theorem zd_law_19 : decode code 19 = .ok (.astore_n 3, 1) := by decide +kernel
theorem zd_law_20 : decode code 20 = .ok (.iconst 0, 1) := by decide +kernel
theorem zd_law_21 : decode code 21 = .ok (.istore 4, 2) := by decide +kernel
theorem zd_law_23 : decode code 23 = .ok (.iload 4, 2) := by decide +kernel
theorem zd_law_25 : decode code 25 = .ok (.aload_n 0, 1) := by decide +kernel
theorem zd_law_26 : decode code 26 = .ok (.arraylength, 1) := by decide +kernel
theorem zd_law_27 : decode code 27 = .ok (.iconst 5, 1) := by decide +kernel
theorem zd_law_28 : decode code 28 = .ok (.isub, 1) := by decide +kernel
theorem zd_law_29 : decode code 29 = .ok (.if_icmp .gt 1186, 3) := by decide +kernel
theorem zd_law_32 : decode code 32 = .ok (.aload_n 0, 1) := by decide +kernel
theorem zd_law_33 : decode code 33 = .ok (.iload 4, 2) := by decide +kernel
theorem zd_law_35 : decode code 35 = .ok (.iaload, 1) := by decide +kernel
theorem zd_law_36 : decode code 36 = .ok (.bipush 15, 2) := by decide +kernel
theorem zd_law_38 : decode code 38 = .ok (.iand, 1) := by decide +kernel
theorem zd_law_39 : decode code 39 = .ok (.tableswitch 1170 0 15 #[77, 133, 221, 317, 409, 489, 557, 613, 669, 768, 823, 886, 977, 1045, 1101, 1114], 77) := by decide +kernel
theorem zd_law_116 : decode code 116 = .ok (.aload_n 1, 1) := by decide +kernel
theorem zd_law_117 : decode code 117 = .ok (.aload_n 0, 1) := by decide +kernel
theorem zd_law_118 : decode code 118 = .ok (.iload 4, 2) := by decide +kernel
theorem zd_law_120 : decode code 120 = .ok (.iconst 1, 1) := by decide +kernel
theorem zd_law_121 : decode code 121 = .ok (.iadd, 1) := by decide +kernel
theorem zd_law_122 : decode code 122 = .ok (.iaload, 1) := by decide +kernel
theorem zd_law_123 : decode code 123 = .ok (.aload_n 3, 1) := by decide +kernel
theorem zd_law_124 : decode code 124 = .ok (.invokestatic 76, 3) := by decide +kernel
theorem zd_law_127 : decode code 127 = .ok (.istore 5, 2) := by decide +kernel
theorem zd_law_129 : decode code 129 = .ok (.aload_n 2, 1) := by decide +kernel
theorem zd_law_130 : decode code 130 = .ok (.aload_n 0, 1) := by decide +kernel
theorem zd_law_131 : decode code 131 = .ok (.iload 4, 2) := by decide +kernel
theorem zd_law_133 : decode code 133 = .ok (.iconst 1, 1) := by decide +kernel
theorem zd_law_134 : decode code 134 = .ok (.iadd, 1) := by decide +kernel
theorem zd_law_135 : decode code 135 = .ok (.iaload, 1) := by decide +kernel
theorem zd_law_136 : decode code 136 = .ok (.invokevirtual 81, 3) := by decide +kernel
theorem zd_law_139 : decode code 139 = .ok (.istore 6, 2) := by decide +kernel
theorem zd_law_141 : decode code 141 = .ok (.aload_n 2, 1) := by decide +kernel
theorem zd_law_142 : decode code 142 = .ok (.invokevirtual 82, 3) := by decide +kernel
theorem zd_law_145 : decode code 145 = .ok (.iload 5, 2) := by decide +kernel
theorem zd_law_147 : decode code 147 = .ok (.if_icmp .eq 5, 3) := by decide +kernel
theorem zd_law_150 : decode code 150 = .ok (.iconst 0, 1) := by decide +kernel
theorem zd_law_151 : decode code 151 = .ok (.ireturn, 1) := by decide +kernel
theorem zd_law_152 : decode code 152 = .ok (.iload 5, 2) := by decide +kernel
theorem zd_law_154 : decode code 154 = .ok (.ifCond .ne 15, 3) := by decide +kernel
theorem zd_law_157 : decode code 157 = .ok (.aload_n 3, 1) := by decide +kernel
theorem zd_law_158 : decode code 158 = .ok (.iconst 0, 1) := by decide +kernel
theorem zd_law_159 : decode code 159 = .ok (.laload, 1) := by decide +kernel
theorem zd_law_160 : decode code 160 = .ok (.iload 6, 2) := by decide +kernel
theorem zd_law_162 : decode code 162 = .ok (.i2l, 1) := by decide +kernel
theorem zd_law_163 : decode code 163 = .ok (.lcmp, 1) := by decide +kernel
theorem zd_law_164 : decode code 164 = .ok (.ifCond .eq 5, 3) := by decide +kernel
theorem zd_law_167 : decode code 167 = .ok (.iconst 0, 1) := by decide +kernel
theorem zd_law_168 : decode code 168 = .ok (.ireturn, 1) := by decide +kernel
theorem zd_law_169 : decode code 169 = .ok (.goto 1040, 3) := by decide +kernel
theorem zd_law_172 : decode code 172 = .ok (.aload_n 1, 1) := by decide +kernel
theorem zd_law_173 : decode code 173 = .ok (.aload_n 0, 1) := by decide +kernel
theorem zd_law_174 : decode code 174 = .ok (.iload 4, 2) := by decide +kernel
theorem zd_law_176 : decode code 176 = .ok (.iconst 1, 1) := by decide +kernel
theorem zd_law_177 : decode code 177 = .ok (.iadd, 1) := by decide +kernel
theorem zd_law_178 : decode code 178 = .ok (.iaload, 1) := by decide +kernel
theorem zd_law_179 : decode code 179 = .ok (.i2l, 1) := by decide +kernel
theorem zd_law_180 : decode code 180 = .ok (.bipush 32, 2) := by decide +kernel
theorem zd_law_182 : decode code 182 = .ok (.lshl, 1) := by decide +kernel
theorem zd_law_183 : decode code 183 = .ok (.aload_n 0, 1) := by decide +kernel
theorem zd_law_184 : decode code 184 = .ok (.iload 4, 2) := by decide +kernel
theorem zd_law_186 : decode code 186 = .ok (.iconst 2, 1) := by decide +kernel
theorem zd_law_187 : decode code 187 = .ok (.iadd, 1) := by decide +kernel
theorem zd_law_188 : decode code 188 = .ok (.iaload, 1) := by decide +kernel
theorem zd_law_189 : decode code 189 = .ok (.i2l, 1) := by decide +kernel
theorem zd_law_190 : decode code 190 = .ok (.ldc2_w 86, 3) := by decide +kernel
theorem zd_law_193 : decode code 193 = .ok (.land, 1) := by decide +kernel
theorem zd_law_194 : decode code 194 = .ok (.lor, 1) := by decide +kernel
theorem zd_law_195 : decode code 195 = .ok (.aload_n 3, 1) := by decide +kernel
theorem zd_law_196 : decode code 196 = .ok (.invokestatic 88, 3) := by decide +kernel
theorem zd_law_199 : decode code 199 = .ok (.istore 5, 2) := by decide +kernel
theorem zd_law_201 : decode code 201 = .ok (.aload_n 2, 1) := by decide +kernel
theorem zd_law_202 : decode code 202 = .ok (.aload_n 0, 1) := by decide +kernel
theorem zd_law_203 : decode code 203 = .ok (.iload 4, 2) := by decide +kernel
theorem zd_law_205 : decode code 205 = .ok (.iconst 1, 1) := by decide +kernel
theorem zd_law_206 : decode code 206 = .ok (.iadd, 1) := by decide +kernel
theorem zd_law_207 : decode code 207 = .ok (.iaload, 1) := by decide +kernel
theorem zd_law_208 : decode code 208 = .ok (.i2l, 1) := by decide +kernel
theorem zd_law_209 : decode code 209 = .ok (.bipush 32, 2) := by decide +kernel
theorem zd_law_211 : decode code 211 = .ok (.lshl, 1) := by decide +kernel
theorem zd_law_212 : decode code 212 = .ok (.aload_n 0, 1) := by decide +kernel
theorem zd_law_213 : decode code 213 = .ok (.iload 4, 2) := by decide +kernel
theorem zd_law_215 : decode code 215 = .ok (.iconst 2, 1) := by decide +kernel
theorem zd_law_216 : decode code 216 = .ok (.iadd, 1) := by decide +kernel
theorem zd_law_217 : decode code 217 = .ok (.iaload, 1) := by decide +kernel
theorem zd_law_218 : decode code 218 = .ok (.i2l, 1) := by decide +kernel
theorem zd_law_219 : decode code 219 = .ok (.ldc2_w 86, 3) := by decide +kernel
theorem zd_law_222 : decode code 222 = .ok (.land, 1) := by decide +kernel
theorem zd_law_223 : decode code 223 = .ok (.lor, 1) := by decide +kernel
theorem zd_law_224 : decode code 224 = .ok (.invokevirtual 91, 3) := by decide +kernel
theorem zd_law_227 : decode code 227 = .ok (.istore 6, 2) := by decide +kernel
theorem zd_law_229 : decode code 229 = .ok (.aload_n 2, 1) := by decide +kernel
theorem zd_law_230 : decode code 230 = .ok (.invokevirtual 82, 3) := by decide +kernel
theorem zd_law_233 : decode code 233 = .ok (.iload 5, 2) := by decide +kernel
theorem zd_law_235 : decode code 235 = .ok (.if_icmp .eq 5, 3) := by decide +kernel
theorem zd_law_238 : decode code 238 = .ok (.iconst 0, 1) := by decide +kernel
theorem zd_law_239 : decode code 239 = .ok (.ireturn, 1) := by decide +kernel
theorem zd_law_240 : decode code 240 = .ok (.iload 5, 2) := by decide +kernel
theorem zd_law_242 : decode code 242 = .ok (.ifCond .ne 15, 3) := by decide +kernel
theorem zd_law_245 : decode code 245 = .ok (.aload_n 3, 1) := by decide +kernel
theorem zd_law_246 : decode code 246 = .ok (.iconst 0, 1) := by decide +kernel
theorem zd_law_247 : decode code 247 = .ok (.laload, 1) := by decide +kernel
theorem zd_law_248 : decode code 248 = .ok (.iload 6, 2) := by decide +kernel
theorem zd_law_250 : decode code 250 = .ok (.i2l, 1) := by decide +kernel
theorem zd_law_251 : decode code 251 = .ok (.lcmp, 1) := by decide +kernel
theorem zd_law_252 : decode code 252 = .ok (.ifCond .eq 5, 3) := by decide +kernel
theorem zd_law_255 : decode code 255 = .ok (.iconst 0, 1) := by decide +kernel
theorem zd_law_256 : decode code 256 = .ok (.ireturn, 1) := by decide +kernel
theorem zd_law_257 : decode code 257 = .ok (.goto 952, 3) := by decide +kernel
theorem zd_law_260 : decode code 260 = .ok (.aload_n 1, 1) := by decide +kernel
theorem zd_law_261 : decode code 261 = .ok (.aload_n 0, 1) := by decide +kernel
theorem zd_law_262 : decode code 262 = .ok (.iload 4, 2) := by decide +kernel
theorem zd_law_264 : decode code 264 = .ok (.iconst 1, 1) := by decide +kernel
theorem zd_law_265 : decode code 265 = .ok (.iadd, 1) := by decide +kernel
theorem zd_law_266 : decode code 266 = .ok (.iaload, 1) := by decide +kernel
theorem zd_law_267 : decode code 267 = .ok (.aload_n 0, 1) := by decide +kernel
theorem zd_law_268 : decode code 268 = .ok (.iload 4, 2) := by decide +kernel
theorem zd_law_270 : decode code 270 = .ok (.iconst 2, 1) := by decide +kernel
theorem zd_law_271 : decode code 271 = .ok (.iadd, 1) := by decide +kernel
theorem zd_law_272 : decode code 272 = .ok (.iaload, 1) := by decide +kernel
theorem zd_law_273 : decode code 273 = .ok (.aload_n 0, 1) := by decide +kernel
theorem zd_law_274 : decode code 274 = .ok (.iload 4, 2) := by decide +kernel
theorem zd_law_276 : decode code 276 = .ok (.iconst 3, 1) := by decide +kernel
theorem zd_law_277 : decode code 277 = .ok (.iadd, 1) := by decide +kernel
theorem zd_law_278 : decode code 278 = .ok (.iaload, 1) := by decide +kernel
theorem zd_law_279 : decode code 279 = .ok (.ifCond .eq 7, 3) := by decide +kernel
theorem zd_law_282 : decode code 282 = .ok (.iconst 1, 1) := by decide +kernel
theorem zd_law_283 : decode code 283 = .ok (.goto 4, 3) := by decide +kernel
theorem zd_law_286 : decode code 286 = .ok (.iconst 0, 1) := by decide +kernel
theorem zd_law_287 : decode code 287 = .ok (.aload_n 3, 1) := by decide +kernel
theorem zd_law_288 : decode code 288 = .ok (.invokestatic 92, 3) := by decide +kernel
theorem zd_law_291 : decode code 291 = .ok (.istore 5, 2) := by decide +kernel
theorem zd_law_293 : decode code 293 = .ok (.aload_n 2, 1) := by decide +kernel
theorem zd_law_294 : decode code 294 = .ok (.aload_n 0, 1) := by decide +kernel
theorem zd_law_295 : decode code 295 = .ok (.iload 4, 2) := by decide +kernel
theorem zd_law_297 : decode code 297 = .ok (.iconst 1, 1) := by decide +kernel
theorem zd_law_298 : decode code 298 = .ok (.iadd, 1) := by decide +kernel
theorem zd_law_299 : decode code 299 = .ok (.iaload, 1) := by decide +kernel
theorem zd_law_300 : decode code 300 = .ok (.aload_n 0, 1) := by decide +kernel
theorem zd_law_301 : decode code 301 = .ok (.iload 4, 2) := by decide +kernel
theorem zd_law_303 : decode code 303 = .ok (.iconst 2, 1) := by decide +kernel
theorem zd_law_304 : decode code 304 = .ok (.iadd, 1) := by decide +kernel
theorem zd_law_305 : decode code 305 = .ok (.iaload, 1) := by decide +kernel
theorem zd_law_306 : decode code 306 = .ok (.aload_n 0, 1) := by decide +kernel
theorem zd_law_307 : decode code 307 = .ok (.iload 4, 2) := by decide +kernel
theorem zd_law_309 : decode code 309 = .ok (.iconst 3, 1) := by decide +kernel
theorem zd_law_310 : decode code 310 = .ok (.iadd, 1) := by decide +kernel
theorem zd_law_311 : decode code 311 = .ok (.iaload, 1) := by decide +kernel
theorem zd_law_312 : decode code 312 = .ok (.ifCond .eq 7, 3) := by decide +kernel
theorem zd_law_315 : decode code 315 = .ok (.iconst 1, 1) := by decide +kernel
theorem zd_law_316 : decode code 316 = .ok (.goto 4, 3) := by decide +kernel
theorem zd_law_319 : decode code 319 = .ok (.iconst 0, 1) := by decide +kernel
theorem zd_law_320 : decode code 320 = .ok (.invokevirtual 95, 3) := by decide +kernel
theorem zd_law_323 : decode code 323 = .ok (.istore 6, 2) := by decide +kernel
theorem zd_law_325 : decode code 325 = .ok (.aload_n 2, 1) := by decide +kernel
theorem zd_law_326 : decode code 326 = .ok (.invokevirtual 82, 3) := by decide +kernel
theorem zd_law_329 : decode code 329 = .ok (.iload 5, 2) := by decide +kernel
theorem zd_law_331 : decode code 331 = .ok (.if_icmp .eq 5, 3) := by decide +kernel
theorem zd_law_334 : decode code 334 = .ok (.iconst 0, 1) := by decide +kernel
theorem zd_law_335 : decode code 335 = .ok (.ireturn, 1) := by decide +kernel
theorem zd_law_336 : decode code 336 = .ok (.iload 5, 2) := by decide +kernel
theorem zd_law_338 : decode code 338 = .ok (.ifCond .ne 15, 3) := by decide +kernel
theorem zd_law_341 : decode code 341 = .ok (.aload_n 3, 1) := by decide +kernel
theorem zd_law_342 : decode code 342 = .ok (.iconst 0, 1) := by decide +kernel
theorem zd_law_343 : decode code 343 = .ok (.laload, 1) := by decide +kernel
theorem zd_law_344 : decode code 344 = .ok (.iload 6, 2) := by decide +kernel
theorem zd_law_346 : decode code 346 = .ok (.i2l, 1) := by decide +kernel
theorem zd_law_347 : decode code 347 = .ok (.lcmp, 1) := by decide +kernel
theorem zd_law_348 : decode code 348 = .ok (.ifCond .eq 5, 3) := by decide +kernel
theorem zd_law_351 : decode code 351 = .ok (.iconst 0, 1) := by decide +kernel
theorem zd_law_352 : decode code 352 = .ok (.ireturn, 1) := by decide +kernel
theorem zd_law_353 : decode code 353 = .ok (.goto 856, 3) := by decide +kernel
theorem zd_law_356 : decode code 356 = .ok (.aload_n 1, 1) := by decide +kernel
theorem zd_law_357 : decode code 357 = .ok (.aload_n 0, 1) := by decide +kernel
theorem zd_law_358 : decode code 358 = .ok (.iload 4, 2) := by decide +kernel
theorem zd_law_360 : decode code 360 = .ok (.iconst 1, 1) := by decide +kernel
theorem zd_law_361 : decode code 361 = .ok (.iadd, 1) := by decide +kernel
theorem zd_law_362 : decode code 362 = .ok (.iaload, 1) := by decide +kernel
theorem zd_law_363 : decode code 363 = .ok (.aload_n 0, 1) := by decide +kernel
theorem zd_law_364 : decode code 364 = .ok (.iload 4, 2) := by decide +kernel
theorem zd_law_366 : decode code 366 = .ok (.iconst 2, 1) := by decide +kernel
theorem zd_law_367 : decode code 367 = .ok (.iadd, 1) := by decide +kernel
theorem zd_law_368 : decode code 368 = .ok (.iaload, 1) := by decide +kernel
theorem zd_law_369 : decode code 369 = .ok (.aload_n 0, 1) := by decide +kernel
theorem zd_law_370 : decode code 370 = .ok (.iload 4, 2) := by decide +kernel
theorem zd_law_372 : decode code 372 = .ok (.iconst 3, 1) := by decide +kernel
theorem zd_law_373 : decode code 373 = .ok (.iadd, 1) := by decide +kernel
theorem zd_law_374 : decode code 374 = .ok (.iaload, 1) := by decide +kernel
theorem zd_law_375 : decode code 375 = .ok (.aload_n 0, 1) := by decide +kernel
theorem zd_law_376 : decode code 376 = .ok (.iload 4, 2) := by decide +kernel
theorem zd_law_378 : decode code 378 = .ok (.iconst 4, 1) := by decide +kernel
theorem zd_law_379 : decode code 379 = .ok (.iadd, 1) := by decide +kernel
theorem zd_law_380 : decode code 380 = .ok (.iaload, 1) := by decide +kernel
theorem zd_law_381 : decode code 381 = .ok (.aload_n 3, 1) := by decide +kernel
theorem zd_law_382 : decode code 382 = .ok (.invokestatic 96, 3) := by decide +kernel
theorem zd_law_385 : decode code 385 = .ok (.istore 5, 2) := by decide +kernel
theorem zd_law_387 : decode code 387 = .ok (.aload_n 2, 1) := by decide +kernel
theorem zd_law_388 : decode code 388 = .ok (.aload_n 0, 1) := by decide +kernel
theorem zd_law_389 : decode code 389 = .ok (.iload 4, 2) := by decide +kernel
theorem zd_law_391 : decode code 391 = .ok (.iconst 1, 1) := by decide +kernel
theorem zd_law_392 : decode code 392 = .ok (.iadd, 1) := by decide +kernel
theorem zd_law_393 : decode code 393 = .ok (.iaload, 1) := by decide +kernel
theorem zd_law_394 : decode code 394 = .ok (.aload_n 0, 1) := by decide +kernel
theorem zd_law_395 : decode code 395 = .ok (.iload 4, 2) := by decide +kernel
theorem zd_law_397 : decode code 397 = .ok (.iconst 2, 1) := by decide +kernel
theorem zd_law_398 : decode code 398 = .ok (.iadd, 1) := by decide +kernel
theorem zd_law_399 : decode code 399 = .ok (.iaload, 1) := by decide +kernel
theorem zd_law_400 : decode code 400 = .ok (.aload_n 0, 1) := by decide +kernel
theorem zd_law_401 : decode code 401 = .ok (.iload 4, 2) := by decide +kernel
theorem zd_law_403 : decode code 403 = .ok (.iconst 3, 1) := by decide +kernel
theorem zd_law_404 : decode code 404 = .ok (.iadd, 1) := by decide +kernel
theorem zd_law_405 : decode code 405 = .ok (.iaload, 1) := by decide +kernel
theorem zd_law_406 : decode code 406 = .ok (.aload_n 0, 1) := by decide +kernel
theorem zd_law_407 : decode code 407 = .ok (.iload 4, 2) := by decide +kernel
theorem zd_law_409 : decode code 409 = .ok (.iconst 4, 1) := by decide +kernel
theorem zd_law_410 : decode code 410 = .ok (.iadd, 1) := by decide +kernel
theorem zd_law_411 : decode code 411 = .ok (.iaload, 1) := by decide +kernel
theorem zd_law_412 : decode code 412 = .ok (.invokevirtual 99, 3) := by decide +kernel
theorem zd_law_415 : decode code 415 = .ok (.istore 6, 2) := by decide +kernel
theorem zd_law_417 : decode code 417 = .ok (.aload_n 2, 1) := by decide +kernel
theorem zd_law_418 : decode code 418 = .ok (.invokevirtual 82, 3) := by decide +kernel
theorem zd_law_421 : decode code 421 = .ok (.iload 5, 2) := by decide +kernel
theorem zd_law_423 : decode code 423 = .ok (.if_icmp .eq 5, 3) := by decide +kernel
theorem zd_law_426 : decode code 426 = .ok (.iconst 0, 1) := by decide +kernel
theorem zd_law_427 : decode code 427 = .ok (.ireturn, 1) := by decide +kernel
theorem zd_law_428 : decode code 428 = .ok (.iload 5, 2) := by decide +kernel
theorem zd_law_430 : decode code 430 = .ok (.ifCond .ne 15, 3) := by decide +kernel
theorem zd_law_433 : decode code 433 = .ok (.aload_n 3, 1) := by decide +kernel
theorem zd_law_434 : decode code 434 = .ok (.iconst 0, 1) := by decide +kernel
theorem zd_law_435 : decode code 435 = .ok (.laload, 1) := by decide +kernel
theorem zd_law_436 : decode code 436 = .ok (.iload 6, 2) := by decide +kernel
theorem zd_law_438 : decode code 438 = .ok (.i2l, 1) := by decide +kernel
theorem zd_law_439 : decode code 439 = .ok (.lcmp, 1) := by decide +kernel
theorem zd_law_440 : decode code 440 = .ok (.ifCond .eq 5, 3) := by decide +kernel
theorem zd_law_443 : decode code 443 = .ok (.iconst 0, 1) := by decide +kernel
theorem zd_law_444 : decode code 444 = .ok (.ireturn, 1) := by decide +kernel
theorem zd_law_445 : decode code 445 = .ok (.goto 764, 3) := by decide +kernel
theorem zd_law_448 : decode code 448 = .ok (.aload_n 1, 1) := by decide +kernel
theorem zd_law_449 : decode code 449 = .ok (.aload_n 0, 1) := by decide +kernel
theorem zd_law_450 : decode code 450 = .ok (.iload 4, 2) := by decide +kernel
theorem zd_law_452 : decode code 452 = .ok (.iconst 1, 1) := by decide +kernel
theorem zd_law_453 : decode code 453 = .ok (.iadd, 1) := by decide +kernel
theorem zd_law_454 : decode code 454 = .ok (.iaload, 1) := by decide +kernel
theorem zd_law_455 : decode code 455 = .ok (.aload_n 0, 1) := by decide +kernel
theorem zd_law_456 : decode code 456 = .ok (.iload 4, 2) := by decide +kernel
theorem zd_law_458 : decode code 458 = .ok (.iconst 2, 1) := by decide +kernel
theorem zd_law_459 : decode code 459 = .ok (.iadd, 1) := by decide +kernel
theorem zd_law_460 : decode code 460 = .ok (.iaload, 1) := by decide +kernel
theorem zd_law_461 : decode code 461 = .ok (.aload_n 0, 1) := by decide +kernel
theorem zd_law_462 : decode code 462 = .ok (.iload 4, 2) := by decide +kernel
theorem zd_law_464 : decode code 464 = .ok (.iconst 3, 1) := by decide +kernel
theorem zd_law_465 : decode code 465 = .ok (.iadd, 1) := by decide +kernel
theorem zd_law_466 : decode code 466 = .ok (.iaload, 1) := by decide +kernel
theorem zd_law_467 : decode code 467 = .ok (.aload_n 3, 1) := by decide +kernel
theorem zd_law_468 : decode code 468 = .ok (.invokestatic 100, 3) := by decide +kernel
theorem zd_law_471 : decode code 471 = .ok (.istore 5, 2) := by decide +kernel
theorem zd_law_473 : decode code 473 = .ok (.aload_n 2, 1) := by decide +kernel
theorem zd_law_474 : decode code 474 = .ok (.aload_n 0, 1) := by decide +kernel
theorem zd_law_475 : decode code 475 = .ok (.iload 4, 2) := by decide +kernel
theorem zd_law_477 : decode code 477 = .ok (.iconst 1, 1) := by decide +kernel
theorem zd_law_478 : decode code 478 = .ok (.iadd, 1) := by decide +kernel
theorem zd_law_479 : decode code 479 = .ok (.iaload, 1) := by decide +kernel
theorem zd_law_480 : decode code 480 = .ok (.aload_n 0, 1) := by decide +kernel
theorem zd_law_481 : decode code 481 = .ok (.iload 4, 2) := by decide +kernel
theorem zd_law_483 : decode code 483 = .ok (.iconst 2, 1) := by decide +kernel
theorem zd_law_484 : decode code 484 = .ok (.iadd, 1) := by decide +kernel
theorem zd_law_485 : decode code 485 = .ok (.iaload, 1) := by decide +kernel
theorem zd_law_486 : decode code 486 = .ok (.aload_n 0, 1) := by decide +kernel
theorem zd_law_487 : decode code 487 = .ok (.iload 4, 2) := by decide +kernel
theorem zd_law_489 : decode code 489 = .ok (.iconst 3, 1) := by decide +kernel
theorem zd_law_490 : decode code 490 = .ok (.iadd, 1) := by decide +kernel
theorem zd_law_491 : decode code 491 = .ok (.iaload, 1) := by decide +kernel
theorem zd_law_492 : decode code 492 = .ok (.invokevirtual 103, 3) := by decide +kernel
theorem zd_law_495 : decode code 495 = .ok (.istore 6, 2) := by decide +kernel
theorem zd_law_497 : decode code 497 = .ok (.aload_n 2, 1) := by decide +kernel
theorem zd_law_498 : decode code 498 = .ok (.invokevirtual 82, 3) := by decide +kernel
theorem zd_law_501 : decode code 501 = .ok (.iload 5, 2) := by decide +kernel
theorem zd_law_503 : decode code 503 = .ok (.if_icmp .eq 5, 3) := by decide +kernel
theorem zd_law_506 : decode code 506 = .ok (.iconst 0, 1) := by decide +kernel
theorem zd_law_507 : decode code 507 = .ok (.ireturn, 1) := by decide +kernel
theorem zd_law_508 : decode code 508 = .ok (.iload 5, 2) := by decide +kernel
theorem zd_law_510 : decode code 510 = .ok (.ifCond .ne 15, 3) := by decide +kernel
theorem zd_law_513 : decode code 513 = .ok (.aload_n 3, 1) := by decide +kernel
theorem zd_law_514 : decode code 514 = .ok (.iconst 0, 1) := by decide +kernel
theorem zd_law_515 : decode code 515 = .ok (.laload, 1) := by decide +kernel
theorem zd_law_516 : decode code 516 = .ok (.iload 6, 2) := by decide +kernel
theorem zd_law_518 : decode code 518 = .ok (.i2l, 1) := by decide +kernel
theorem zd_law_519 : decode code 519 = .ok (.lcmp, 1) := by decide +kernel
theorem zd_law_520 : decode code 520 = .ok (.ifCond .eq 5, 3) := by decide +kernel
theorem zd_law_523 : decode code 523 = .ok (.iconst 0, 1) := by decide +kernel
theorem zd_law_524 : decode code 524 = .ok (.ireturn, 1) := by decide +kernel
theorem zd_law_525 : decode code 525 = .ok (.goto 684, 3) := by decide +kernel
theorem zd_law_528 : decode code 528 = .ok (.aload_n 1, 1) := by decide +kernel
theorem zd_law_529 : decode code 529 = .ok (.aload_n 0, 1) := by decide +kernel
theorem zd_law_530 : decode code 530 = .ok (.iload 4, 2) := by decide +kernel
theorem zd_law_532 : decode code 532 = .ok (.iconst 1, 1) := by decide +kernel
theorem zd_law_533 : decode code 533 = .ok (.iadd, 1) := by decide +kernel
theorem zd_law_534 : decode code 534 = .ok (.iaload, 1) := by decide +kernel
theorem zd_law_535 : decode code 535 = .ok (.aload_n 0, 1) := by decide +kernel
theorem zd_law_536 : decode code 536 = .ok (.iload 4, 2) := by decide +kernel
theorem zd_law_538 : decode code 538 = .ok (.iconst 2, 1) := by decide +kernel
theorem zd_law_539 : decode code 539 = .ok (.iadd, 1) := by decide +kernel
theorem zd_law_540 : decode code 540 = .ok (.iaload, 1) := by decide +kernel
theorem zd_law_541 : decode code 541 = .ok (.aload_n 3, 1) := by decide +kernel
theorem zd_law_542 : decode code 542 = .ok (.invokestatic 104, 3) := by decide +kernel
theorem zd_law_545 : decode code 545 = .ok (.istore 5, 2) := by decide +kernel
theorem zd_law_547 : decode code 547 = .ok (.aload_n 2, 1) := by decide +kernel
theorem zd_law_548 : decode code 548 = .ok (.aload_n 0, 1) := by decide +kernel
theorem zd_law_549 : decode code 549 = .ok (.iload 4, 2) := by decide +kernel
theorem zd_law_551 : decode code 551 = .ok (.iconst 1, 1) := by decide +kernel
theorem zd_law_552 : decode code 552 = .ok (.iadd, 1) := by decide +kernel
theorem zd_law_553 : decode code 553 = .ok (.iaload, 1) := by decide +kernel
theorem zd_law_554 : decode code 554 = .ok (.aload_n 0, 1) := by decide +kernel
theorem zd_law_555 : decode code 555 = .ok (.iload 4, 2) := by decide +kernel
theorem zd_law_557 : decode code 557 = .ok (.iconst 2, 1) := by decide +kernel
theorem zd_law_558 : decode code 558 = .ok (.iadd, 1) := by decide +kernel
theorem zd_law_559 : decode code 559 = .ok (.iaload, 1) := by decide +kernel
theorem zd_law_560 : decode code 560 = .ok (.invokevirtual 107, 3) := by decide +kernel
theorem zd_law_563 : decode code 563 = .ok (.istore 6, 2) := by decide +kernel
theorem zd_law_565 : decode code 565 = .ok (.aload_n 2, 1) := by decide +kernel
theorem zd_law_566 : decode code 566 = .ok (.invokevirtual 82, 3) := by decide +kernel
theorem zd_law_569 : decode code 569 = .ok (.iload 5, 2) := by decide +kernel
theorem zd_law_571 : decode code 571 = .ok (.if_icmp .eq 5, 3) := by decide +kernel
theorem zd_law_574 : decode code 574 = .ok (.iconst 0, 1) := by decide +kernel
theorem zd_law_575 : decode code 575 = .ok (.ireturn, 1) := by decide +kernel
theorem zd_law_576 : decode code 576 = .ok (.iload 5, 2) := by decide +kernel
theorem zd_law_578 : decode code 578 = .ok (.ifCond .ne 15, 3) := by decide +kernel
theorem zd_law_581 : decode code 581 = .ok (.aload_n 3, 1) := by decide +kernel
theorem zd_law_582 : decode code 582 = .ok (.iconst 0, 1) := by decide +kernel
theorem zd_law_583 : decode code 583 = .ok (.laload, 1) := by decide +kernel
theorem zd_law_584 : decode code 584 = .ok (.iload 6, 2) := by decide +kernel
theorem zd_law_586 : decode code 586 = .ok (.i2l, 1) := by decide +kernel
theorem zd_law_587 : decode code 587 = .ok (.lcmp, 1) := by decide +kernel
theorem zd_law_588 : decode code 588 = .ok (.ifCond .eq 5, 3) := by decide +kernel
theorem zd_law_591 : decode code 591 = .ok (.iconst 0, 1) := by decide +kernel
theorem zd_law_592 : decode code 592 = .ok (.ireturn, 1) := by decide +kernel
theorem zd_law_593 : decode code 593 = .ok (.goto 616, 3) := by decide +kernel
theorem zd_law_596 : decode code 596 = .ok (.aload_n 1, 1) := by decide +kernel
theorem zd_law_597 : decode code 597 = .ok (.aload_n 0, 1) := by decide +kernel
theorem zd_law_598 : decode code 598 = .ok (.iload 4, 2) := by decide +kernel
theorem zd_law_600 : decode code 600 = .ok (.iconst 1, 1) := by decide +kernel
theorem zd_law_601 : decode code 601 = .ok (.iadd, 1) := by decide +kernel
theorem zd_law_602 : decode code 602 = .ok (.iaload, 1) := by decide +kernel
theorem zd_law_603 : decode code 603 = .ok (.aload_n 3, 1) := by decide +kernel
theorem zd_law_604 : decode code 604 = .ok (.invokestatic 108, 3) := by decide +kernel
theorem zd_law_607 : decode code 607 = .ok (.istore 5, 2) := by decide +kernel
theorem zd_law_609 : decode code 609 = .ok (.aload_n 2, 1) := by decide +kernel
theorem zd_law_610 : decode code 610 = .ok (.aload_n 0, 1) := by decide +kernel
theorem zd_law_611 : decode code 611 = .ok (.iload 4, 2) := by decide +kernel
theorem zd_law_613 : decode code 613 = .ok (.iconst 1, 1) := by decide +kernel
theorem zd_law_614 : decode code 614 = .ok (.iadd, 1) := by decide +kernel
theorem zd_law_615 : decode code 615 = .ok (.iaload, 1) := by decide +kernel
theorem zd_law_616 : decode code 616 = .ok (.invokevirtual 110, 3) := by decide +kernel
theorem zd_law_619 : decode code 619 = .ok (.istore 6, 2) := by decide +kernel
theorem zd_law_621 : decode code 621 = .ok (.aload_n 2, 1) := by decide +kernel
theorem zd_law_622 : decode code 622 = .ok (.invokevirtual 82, 3) := by decide +kernel
theorem zd_law_625 : decode code 625 = .ok (.iload 5, 2) := by decide +kernel
theorem zd_law_627 : decode code 627 = .ok (.if_icmp .eq 5, 3) := by decide +kernel
theorem zd_law_630 : decode code 630 = .ok (.iconst 0, 1) := by decide +kernel
theorem zd_law_631 : decode code 631 = .ok (.ireturn, 1) := by decide +kernel
theorem zd_law_632 : decode code 632 = .ok (.iload 5, 2) := by decide +kernel
theorem zd_law_634 : decode code 634 = .ok (.ifCond .ne 15, 3) := by decide +kernel
theorem zd_law_637 : decode code 637 = .ok (.aload_n 3, 1) := by decide +kernel
theorem zd_law_638 : decode code 638 = .ok (.iconst 0, 1) := by decide +kernel
theorem zd_law_639 : decode code 639 = .ok (.laload, 1) := by decide +kernel
theorem zd_law_640 : decode code 640 = .ok (.iload 6, 2) := by decide +kernel
theorem zd_law_642 : decode code 642 = .ok (.i2l, 1) := by decide +kernel
theorem zd_law_643 : decode code 643 = .ok (.lcmp, 1) := by decide +kernel
theorem zd_law_644 : decode code 644 = .ok (.ifCond .eq 5, 3) := by decide +kernel
theorem zd_law_647 : decode code 647 = .ok (.iconst 0, 1) := by decide +kernel
theorem zd_law_648 : decode code 648 = .ok (.ireturn, 1) := by decide +kernel
theorem zd_law_649 : decode code 649 = .ok (.goto 560, 3) := by decide +kernel
theorem zd_law_652 : decode code 652 = .ok (.aload_n 1, 1) := by decide +kernel
theorem zd_law_653 : decode code 653 = .ok (.aload_n 0, 1) := by decide +kernel
theorem zd_law_654 : decode code 654 = .ok (.iload 4, 2) := by decide +kernel
theorem zd_law_656 : decode code 656 = .ok (.iconst 1, 1) := by decide +kernel
theorem zd_law_657 : decode code 657 = .ok (.iadd, 1) := by decide +kernel
theorem zd_law_658 : decode code 658 = .ok (.iaload, 1) := by decide +kernel
theorem zd_law_659 : decode code 659 = .ok (.aload_n 3, 1) := by decide +kernel
theorem zd_law_660 : decode code 660 = .ok (.invokestatic 111, 3) := by decide +kernel
theorem zd_law_663 : decode code 663 = .ok (.istore 5, 2) := by decide +kernel
theorem zd_law_665 : decode code 665 = .ok (.aload_n 2, 1) := by decide +kernel
theorem zd_law_666 : decode code 666 = .ok (.aload_n 0, 1) := by decide +kernel
theorem zd_law_667 : decode code 667 = .ok (.iload 4, 2) := by decide +kernel
theorem zd_law_669 : decode code 669 = .ok (.iconst 1, 1) := by decide +kernel
theorem zd_law_670 : decode code 670 = .ok (.iadd, 1) := by decide +kernel
theorem zd_law_671 : decode code 671 = .ok (.iaload, 1) := by decide +kernel
theorem zd_law_672 : decode code 672 = .ok (.invokevirtual 113, 3) := by decide +kernel
theorem zd_law_675 : decode code 675 = .ok (.istore 6, 2) := by decide +kernel
theorem zd_law_677 : decode code 677 = .ok (.aload_n 2, 1) := by decide +kernel
theorem zd_law_678 : decode code 678 = .ok (.invokevirtual 82, 3) := by decide +kernel
theorem zd_law_681 : decode code 681 = .ok (.iload 5, 2) := by decide +kernel
theorem zd_law_683 : decode code 683 = .ok (.if_icmp .eq 5, 3) := by decide +kernel
theorem zd_law_686 : decode code 686 = .ok (.iconst 0, 1) := by decide +kernel
theorem zd_law_687 : decode code 687 = .ok (.ireturn, 1) := by decide +kernel
theorem zd_law_688 : decode code 688 = .ok (.iload 5, 2) := by decide +kernel
theorem zd_law_690 : decode code 690 = .ok (.ifCond .ne 15, 3) := by decide +kernel
theorem zd_law_693 : decode code 693 = .ok (.aload_n 3, 1) := by decide +kernel
theorem zd_law_694 : decode code 694 = .ok (.iconst 0, 1) := by decide +kernel
theorem zd_law_695 : decode code 695 = .ok (.laload, 1) := by decide +kernel
theorem zd_law_696 : decode code 696 = .ok (.iload 6, 2) := by decide +kernel
theorem zd_law_698 : decode code 698 = .ok (.i2l, 1) := by decide +kernel
theorem zd_law_699 : decode code 699 = .ok (.lcmp, 1) := by decide +kernel
theorem zd_law_700 : decode code 700 = .ok (.ifCond .eq 5, 3) := by decide +kernel
theorem zd_law_703 : decode code 703 = .ok (.iconst 0, 1) := by decide +kernel
theorem zd_law_704 : decode code 704 = .ok (.ireturn, 1) := by decide +kernel
theorem zd_law_705 : decode code 705 = .ok (.goto 504, 3) := by decide +kernel
theorem zd_law_708 : decode code 708 = .ok (.aload_n 1, 1) := by decide +kernel
theorem zd_law_709 : decode code 709 = .ok (.aload_n 0, 1) := by decide +kernel
theorem zd_law_710 : decode code 710 = .ok (.iload 4, 2) := by decide +kernel
theorem zd_law_712 : decode code 712 = .ok (.iconst 1, 1) := by decide +kernel
theorem zd_law_713 : decode code 713 = .ok (.iadd, 1) := by decide +kernel
theorem zd_law_714 : decode code 714 = .ok (.iaload, 1) := by decide +kernel
theorem zd_law_715 : decode code 715 = .ok (.aload_n 0, 1) := by decide +kernel
theorem zd_law_716 : decode code 716 = .ok (.iload 4, 2) := by decide +kernel
theorem zd_law_718 : decode code 718 = .ok (.iconst 2, 1) := by decide +kernel
theorem zd_law_719 : decode code 719 = .ok (.iadd, 1) := by decide +kernel
theorem zd_law_720 : decode code 720 = .ok (.iaload, 1) := by decide +kernel
theorem zd_law_721 : decode code 721 = .ok (.i2l, 1) := by decide +kernel
theorem zd_law_722 : decode code 722 = .ok (.bipush 32, 2) := by decide +kernel
theorem zd_law_724 : decode code 724 = .ok (.lshl, 1) := by decide +kernel
theorem zd_law_725 : decode code 725 = .ok (.aload_n 0, 1) := by decide +kernel
theorem zd_law_726 : decode code 726 = .ok (.iload 4, 2) := by decide +kernel
theorem zd_law_728 : decode code 728 = .ok (.iconst 3, 1) := by decide +kernel
theorem zd_law_729 : decode code 729 = .ok (.iadd, 1) := by decide +kernel
theorem zd_law_730 : decode code 730 = .ok (.iaload, 1) := by decide +kernel
theorem zd_law_731 : decode code 731 = .ok (.i2l, 1) := by decide +kernel
theorem zd_law_732 : decode code 732 = .ok (.ldc2_w 86, 3) := by decide +kernel
theorem zd_law_735 : decode code 735 = .ok (.land, 1) := by decide +kernel
theorem zd_law_736 : decode code 736 = .ok (.lor, 1) := by decide +kernel
theorem zd_law_737 : decode code 737 = .ok (.aload_n 3, 1) := by decide +kernel
theorem zd_law_738 : decode code 738 = .ok (.invokestatic 114, 3) := by decide +kernel
theorem zd_law_741 : decode code 741 = .ok (.istore 5, 2) := by decide +kernel
theorem zd_law_743 : decode code 743 = .ok (.aload_n 2, 1) := by decide +kernel
theorem zd_law_744 : decode code 744 = .ok (.aload_n 0, 1) := by decide +kernel
theorem zd_law_745 : decode code 745 = .ok (.iload 4, 2) := by decide +kernel
theorem zd_law_747 : decode code 747 = .ok (.iconst 1, 1) := by decide +kernel
theorem zd_law_748 : decode code 748 = .ok (.iadd, 1) := by decide +kernel
theorem zd_law_749 : decode code 749 = .ok (.iaload, 1) := by decide +kernel
theorem zd_law_750 : decode code 750 = .ok (.aload_n 0, 1) := by decide +kernel
theorem zd_law_751 : decode code 751 = .ok (.iload 4, 2) := by decide +kernel
theorem zd_law_753 : decode code 753 = .ok (.iconst 2, 1) := by decide +kernel
theorem zd_law_754 : decode code 754 = .ok (.iadd, 1) := by decide +kernel
theorem zd_law_755 : decode code 755 = .ok (.iaload, 1) := by decide +kernel
theorem zd_law_756 : decode code 756 = .ok (.i2l, 1) := by decide +kernel
theorem zd_law_757 : decode code 757 = .ok (.bipush 32, 2) := by decide +kernel
theorem zd_law_759 : decode code 759 = .ok (.lshl, 1) := by decide +kernel
theorem zd_law_760 : decode code 760 = .ok (.aload_n 0, 1) := by decide +kernel
theorem zd_law_761 : decode code 761 = .ok (.iload 4, 2) := by decide +kernel
theorem zd_law_763 : decode code 763 = .ok (.iconst 3, 1) := by decide +kernel
theorem zd_law_764 : decode code 764 = .ok (.iadd, 1) := by decide +kernel
theorem zd_law_765 : decode code 765 = .ok (.iaload, 1) := by decide +kernel
theorem zd_law_766 : decode code 766 = .ok (.i2l, 1) := by decide +kernel
theorem zd_law_767 : decode code 767 = .ok (.ldc2_w 86, 3) := by decide +kernel
theorem zd_law_770 : decode code 770 = .ok (.land, 1) := by decide +kernel
theorem zd_law_771 : decode code 771 = .ok (.lor, 1) := by decide +kernel
theorem zd_law_772 : decode code 772 = .ok (.invokevirtual 117, 3) := by decide +kernel
theorem zd_law_775 : decode code 775 = .ok (.lstore 6, 2) := by decide +kernel
theorem zd_law_777 : decode code 777 = .ok (.aload_n 2, 1) := by decide +kernel
theorem zd_law_778 : decode code 778 = .ok (.invokevirtual 82, 3) := by decide +kernel
theorem zd_law_781 : decode code 781 = .ok (.iload 5, 2) := by decide +kernel
theorem zd_law_783 : decode code 783 = .ok (.if_icmp .eq 5, 3) := by decide +kernel
theorem zd_law_786 : decode code 786 = .ok (.iconst 0, 1) := by decide +kernel
theorem zd_law_787 : decode code 787 = .ok (.ireturn, 1) := by decide +kernel
theorem zd_law_788 : decode code 788 = .ok (.iload 5, 2) := by decide +kernel
theorem zd_law_790 : decode code 790 = .ok (.ifCond .ne 14, 3) := by decide +kernel
theorem zd_law_793 : decode code 793 = .ok (.aload_n 3, 1) := by decide +kernel
theorem zd_law_794 : decode code 794 = .ok (.iconst 0, 1) := by decide +kernel
theorem zd_law_795 : decode code 795 = .ok (.laload, 1) := by decide +kernel
theorem zd_law_796 : decode code 796 = .ok (.lload 6, 2) := by decide +kernel
theorem zd_law_798 : decode code 798 = .ok (.lcmp, 1) := by decide +kernel
theorem zd_law_799 : decode code 799 = .ok (.ifCond .eq 5, 3) := by decide +kernel
theorem zd_law_802 : decode code 802 = .ok (.iconst 0, 1) := by decide +kernel
theorem zd_law_803 : decode code 803 = .ok (.ireturn, 1) := by decide +kernel
theorem zd_law_804 : decode code 804 = .ok (.goto 405, 3) := by decide +kernel
theorem zd_law_807 : decode code 807 = .ok (.aload_n 1, 1) := by decide +kernel
theorem zd_law_808 : decode code 808 = .ok (.aload_n 0, 1) := by decide +kernel
theorem zd_law_809 : decode code 809 = .ok (.iload 4, 2) := by decide +kernel
theorem zd_law_811 : decode code 811 = .ok (.iconst 1, 1) := by decide +kernel
theorem zd_law_812 : decode code 812 = .ok (.iadd, 1) := by decide +kernel
theorem zd_law_813 : decode code 813 = .ok (.iaload, 1) := by decide +kernel
theorem zd_law_814 : decode code 814 = .ok (.aload_n 3, 1) := by decide +kernel
theorem zd_law_815 : decode code 815 = .ok (.invokestatic 118, 3) := by decide +kernel
theorem zd_law_818 : decode code 818 = .ok (.istore 5, 2) := by decide +kernel
theorem zd_law_820 : decode code 820 = .ok (.aload_n 2, 1) := by decide +kernel
theorem zd_law_821 : decode code 821 = .ok (.aload_n 0, 1) := by decide +kernel
theorem zd_law_822 : decode code 822 = .ok (.iload 4, 2) := by decide +kernel
theorem zd_law_824 : decode code 824 = .ok (.iconst 1, 1) := by decide +kernel
theorem zd_law_825 : decode code 825 = .ok (.iadd, 1) := by decide +kernel
theorem zd_law_826 : decode code 826 = .ok (.iaload, 1) := by decide +kernel
theorem zd_law_827 : decode code 827 = .ok (.invokevirtual 120, 3) := by decide +kernel
theorem zd_law_830 : decode code 830 = .ok (.lstore 6, 2) := by decide +kernel
theorem zd_law_832 : decode code 832 = .ok (.aload_n 2, 1) := by decide +kernel
theorem zd_law_833 : decode code 833 = .ok (.invokevirtual 82, 3) := by decide +kernel
theorem zd_law_836 : decode code 836 = .ok (.iload 5, 2) := by decide +kernel
theorem zd_law_838 : decode code 838 = .ok (.if_icmp .eq 5, 3) := by decide +kernel
theorem zd_law_841 : decode code 841 = .ok (.iconst 0, 1) := by decide +kernel
theorem zd_law_842 : decode code 842 = .ok (.ireturn, 1) := by decide +kernel
theorem zd_law_843 : decode code 843 = .ok (.iload 5, 2) := by decide +kernel
theorem zd_law_845 : decode code 845 = .ok (.ifCond .ne 14, 3) := by decide +kernel
theorem zd_law_848 : decode code 848 = .ok (.aload_n 3, 1) := by decide +kernel
theorem zd_law_849 : decode code 849 = .ok (.iconst 0, 1) := by decide +kernel
theorem zd_law_850 : decode code 850 = .ok (.laload, 1) := by decide +kernel
theorem zd_law_851 : decode code 851 = .ok (.lload 6, 2) := by decide +kernel
theorem zd_law_853 : decode code 853 = .ok (.lcmp, 1) := by decide +kernel
theorem zd_law_854 : decode code 854 = .ok (.ifCond .eq 5, 3) := by decide +kernel
theorem zd_law_857 : decode code 857 = .ok (.iconst 0, 1) := by decide +kernel
theorem zd_law_858 : decode code 858 = .ok (.ireturn, 1) := by decide +kernel
theorem zd_law_859 : decode code 859 = .ok (.goto 350, 3) := by decide +kernel
theorem zd_law_862 : decode code 862 = .ok (.aload_n 1, 1) := by decide +kernel
theorem zd_law_863 : decode code 863 = .ok (.aload_n 0, 1) := by decide +kernel
theorem zd_law_864 : decode code 864 = .ok (.iload 4, 2) := by decide +kernel
theorem zd_law_866 : decode code 866 = .ok (.iconst 1, 1) := by decide +kernel
theorem zd_law_867 : decode code 867 = .ok (.iadd, 1) := by decide +kernel
theorem zd_law_868 : decode code 868 = .ok (.iaload, 1) := by decide +kernel
theorem zd_law_869 : decode code 869 = .ok (.aload_n 3, 1) := by decide +kernel
theorem zd_law_870 : decode code 870 = .ok (.invokestatic 121, 3) := by decide +kernel
theorem zd_law_873 : decode code 873 = .ok (.istore 5, 2) := by decide +kernel
theorem zd_law_875 : decode code 875 = .ok (.aload_n 2, 1) := by decide +kernel
theorem zd_law_876 : decode code 876 = .ok (.aload_n 0, 1) := by decide +kernel
theorem zd_law_877 : decode code 877 = .ok (.iload 4, 2) := by decide +kernel
theorem zd_law_879 : decode code 879 = .ok (.iconst 1, 1) := by decide +kernel
theorem zd_law_880 : decode code 880 = .ok (.iadd, 1) := by decide +kernel
theorem zd_law_881 : decode code 881 = .ok (.iaload, 1) := by decide +kernel
theorem zd_law_882 : decode code 882 = .ok (.invokevirtual 123, 3) := by decide +kernel
theorem zd_law_885 : decode code 885 = .ok (.istore 6, 2) := by decide +kernel
theorem zd_law_887 : decode code 887 = .ok (.aload_n 2, 1) := by decide +kernel
theorem zd_law_888 : decode code 888 = .ok (.invokevirtual 82, 3) := by decide +kernel
theorem zd_law_891 : decode code 891 = .ok (.iload 5, 2) := by decide +kernel
theorem zd_law_893 : decode code 893 = .ok (.if_icmp .eq 5, 3) := by decide +kernel
theorem zd_law_896 : decode code 896 = .ok (.iconst 0, 1) := by decide +kernel
theorem zd_law_897 : decode code 897 = .ok (.ireturn, 1) := by decide +kernel
theorem zd_law_898 : decode code 898 = .ok (.iload 5, 2) := by decide +kernel
theorem zd_law_900 : decode code 900 = .ok (.ifCond .ne 22, 3) := by decide +kernel
theorem zd_law_903 : decode code 903 = .ok (.aload_n 3, 1) := by decide +kernel
theorem zd_law_904 : decode code 904 = .ok (.iconst 0, 1) := by decide +kernel
theorem zd_law_905 : decode code 905 = .ok (.laload, 1) := by decide +kernel
theorem zd_law_906 : decode code 906 = .ok (.iload 6, 2) := by decide +kernel
theorem zd_law_908 : decode code 908 = .ok (.ifCond .eq 7, 3) := by decide +kernel
theorem zd_law_911 : decode code 911 = .ok (.lconst 1, 1) := by decide +kernel
theorem zd_law_912 : decode code 912 = .ok (.goto 4, 3) := by decide +kernel
theorem zd_law_915 : decode code 915 = .ok (.lconst 0, 1) := by decide +kernel
theorem zd_law_916 : decode code 916 = .ok (.lcmp, 1) := by decide +kernel
theorem zd_law_917 : decode code 917 = .ok (.ifCond .eq 5, 3) := by decide +kernel
theorem zd_law_920 : decode code 920 = .ok (.iconst 0, 1) := by decide +kernel
theorem zd_law_921 : decode code 921 = .ok (.ireturn, 1) := by decide +kernel
theorem zd_law_922 : decode code 922 = .ok (.goto 287, 3) := by decide +kernel
theorem zd_law_925 : decode code 925 = .ok (.aload_n 1, 1) := by decide +kernel
theorem zd_law_926 : decode code 926 = .ok (.aload_n 0, 1) := by decide +kernel
theorem zd_law_927 : decode code 927 = .ok (.iload 4, 2) := by decide +kernel
theorem zd_law_929 : decode code 929 = .ok (.iconst 1, 1) := by decide +kernel
theorem zd_law_930 : decode code 930 = .ok (.iadd, 1) := by decide +kernel
theorem zd_law_931 : decode code 931 = .ok (.iaload, 1) := by decide +kernel
theorem zd_law_932 : decode code 932 = .ok (.aload_n 0, 1) := by decide +kernel
theorem zd_law_933 : decode code 933 = .ok (.iload 4, 2) := by decide +kernel
theorem zd_law_935 : decode code 935 = .ok (.iconst 2, 1) := by decide +kernel
theorem zd_law_936 : decode code 936 = .ok (.iadd, 1) := by decide +kernel
theorem zd_law_937 : decode code 937 = .ok (.iaload, 1) := by decide +kernel
theorem zd_law_938 : decode code 938 = .ok (.ifCond .eq 7, 3) := by decide +kernel
theorem zd_law_941 : decode code 941 = .ok (.iconst 1, 1) := by decide +kernel
theorem zd_law_942 : decode code 942 = .ok (.goto 4, 3) := by decide +kernel
theorem zd_law_945 : decode code 945 = .ok (.iconst 0, 1) := by decide +kernel
theorem zd_law_946 : decode code 946 = .ok (.aload_n 3, 1) := by decide +kernel
theorem zd_law_947 : decode code 947 = .ok (.invokestatic 124, 3) := by decide +kernel
theorem zd_law_950 : decode code 950 = .ok (.istore 5, 2) := by decide +kernel
theorem zd_law_952 : decode code 952 = .ok (.aload_n 2, 1) := by decide +kernel
theorem zd_law_953 : decode code 953 = .ok (.aload_n 0, 1) := by decide +kernel
theorem zd_law_954 : decode code 954 = .ok (.iload 4, 2) := by decide +kernel
theorem zd_law_956 : decode code 956 = .ok (.iconst 1, 1) := by decide +kernel
theorem zd_law_957 : decode code 957 = .ok (.iadd, 1) := by decide +kernel
theorem zd_law_958 : decode code 958 = .ok (.iaload, 1) := by decide +kernel
theorem zd_law_959 : decode code 959 = .ok (.aload_n 0, 1) := by decide +kernel
theorem zd_law_960 : decode code 960 = .ok (.iload 4, 2) := by decide +kernel
theorem zd_law_962 : decode code 962 = .ok (.iconst 2, 1) := by decide +kernel
theorem zd_law_963 : decode code 963 = .ok (.iadd, 1) := by decide +kernel
theorem zd_law_964 : decode code 964 = .ok (.iaload, 1) := by decide +kernel
theorem zd_law_965 : decode code 965 = .ok (.ifCond .eq 7, 3) := by decide +kernel
theorem zd_law_968 : decode code 968 = .ok (.iconst 1, 1) := by decide +kernel
theorem zd_law_969 : decode code 969 = .ok (.goto 4, 3) := by decide +kernel
theorem zd_law_972 : decode code 972 = .ok (.iconst 0, 1) := by decide +kernel
theorem zd_law_973 : decode code 973 = .ok (.invokevirtual 127, 3) := by decide +kernel
theorem zd_law_976 : decode code 976 = .ok (.istore 6, 2) := by decide +kernel
theorem zd_law_978 : decode code 978 = .ok (.aload_n 2, 1) := by decide +kernel
theorem zd_law_979 : decode code 979 = .ok (.invokevirtual 82, 3) := by decide +kernel
theorem zd_law_982 : decode code 982 = .ok (.iload 5, 2) := by decide +kernel
theorem zd_law_984 : decode code 984 = .ok (.if_icmp .eq 5, 3) := by decide +kernel
theorem zd_law_987 : decode code 987 = .ok (.iconst 0, 1) := by decide +kernel
theorem zd_law_988 : decode code 988 = .ok (.ireturn, 1) := by decide +kernel
theorem zd_law_989 : decode code 989 = .ok (.iload 5, 2) := by decide +kernel
theorem zd_law_991 : decode code 991 = .ok (.ifCond .ne 22, 3) := by decide +kernel
theorem zd_law_994 : decode code 994 = .ok (.aload_n 3, 1) := by decide +kernel
theorem zd_law_995 : decode code 995 = .ok (.iconst 0, 1) := by decide +kernel
theorem zd_law_996 : decode code 996 = .ok (.laload, 1) := by decide +kernel
theorem zd_law_997 : decode code 997 = .ok (.iload 6, 2) := by decide +kernel
theorem zd_law_999 : decode code 999 = .ok (.ifCond .eq 7, 3) := by decide +kernel
theorem zd_law_1002 : decode code 1002 = .ok (.lconst 1, 1) := by decide +kernel
theorem zd_law_1003 : decode code 1003 = .ok (.goto 4, 3) := by decide +kernel
theorem zd_law_1006 : decode code 1006 = .ok (.lconst 0, 1) := by decide +kernel
theorem zd_law_1007 : decode code 1007 = .ok (.lcmp, 1) := by decide +kernel
theorem zd_law_1008 : decode code 1008 = .ok (.ifCond .eq 5, 3) := by decide +kernel
theorem zd_law_1011 : decode code 1011 = .ok (.iconst 0, 1) := by decide +kernel
theorem zd_law_1012 : decode code 1012 = .ok (.ireturn, 1) := by decide +kernel
theorem zd_law_1013 : decode code 1013 = .ok (.goto 196, 3) := by decide +kernel
theorem zd_law_1016 : decode code 1016 = .ok (.aload_n 1, 1) := by decide +kernel
theorem zd_law_1017 : decode code 1017 = .ok (.aload_n 0, 1) := by decide +kernel
theorem zd_law_1018 : decode code 1018 = .ok (.iload 4, 2) := by decide +kernel
theorem zd_law_1020 : decode code 1020 = .ok (.iconst 1, 1) := by decide +kernel
theorem zd_law_1021 : decode code 1021 = .ok (.iadd, 1) := by decide +kernel
theorem zd_law_1022 : decode code 1022 = .ok (.iaload, 1) := by decide +kernel
theorem zd_law_1023 : decode code 1023 = .ok (.aload_n 0, 1) := by decide +kernel
theorem zd_law_1024 : decode code 1024 = .ok (.iload 4, 2) := by decide +kernel
theorem zd_law_1026 : decode code 1026 = .ok (.iconst 2, 1) := by decide +kernel
theorem zd_law_1027 : decode code 1027 = .ok (.iadd, 1) := by decide +kernel
theorem zd_law_1028 : decode code 1028 = .ok (.iaload, 1) := by decide +kernel
theorem zd_law_1029 : decode code 1029 = .ok (.aload_n 3, 1) := by decide +kernel
theorem zd_law_1030 : decode code 1030 = .ok (.invokestatic 128, 3) := by decide +kernel
theorem zd_law_1033 : decode code 1033 = .ok (.istore 5, 2) := by decide +kernel
theorem zd_law_1035 : decode code 1035 = .ok (.aload_n 2, 1) := by decide +kernel
theorem zd_law_1036 : decode code 1036 = .ok (.aload_n 0, 1) := by decide +kernel
theorem zd_law_1037 : decode code 1037 = .ok (.iload 4, 2) := by decide +kernel
theorem zd_law_1039 : decode code 1039 = .ok (.iconst 1, 1) := by decide +kernel
theorem zd_law_1040 : decode code 1040 = .ok (.iadd, 1) := by decide +kernel
theorem zd_law_1041 : decode code 1041 = .ok (.iaload, 1) := by decide +kernel
theorem zd_law_1042 : decode code 1042 = .ok (.aload_n 0, 1) := by decide +kernel
theorem zd_law_1043 : decode code 1043 = .ok (.iload 4, 2) := by decide +kernel
theorem zd_law_1045 : decode code 1045 = .ok (.iconst 2, 1) := by decide +kernel
theorem zd_law_1046 : decode code 1046 = .ok (.iadd, 1) := by decide +kernel
theorem zd_law_1047 : decode code 1047 = .ok (.iaload, 1) := by decide +kernel
theorem zd_law_1048 : decode code 1048 = .ok (.invokevirtual 130, 3) := by decide +kernel
theorem zd_law_1051 : decode code 1051 = .ok (.istore 6, 2) := by decide +kernel
theorem zd_law_1053 : decode code 1053 = .ok (.aload_n 2, 1) := by decide +kernel
theorem zd_law_1054 : decode code 1054 = .ok (.invokevirtual 82, 3) := by decide +kernel
theorem zd_law_1057 : decode code 1057 = .ok (.iload 5, 2) := by decide +kernel
theorem zd_law_1059 : decode code 1059 = .ok (.if_icmp .eq 5, 3) := by decide +kernel
theorem zd_law_1062 : decode code 1062 = .ok (.iconst 0, 1) := by decide +kernel
theorem zd_law_1063 : decode code 1063 = .ok (.ireturn, 1) := by decide +kernel
theorem zd_law_1064 : decode code 1064 = .ok (.iload 5, 2) := by decide +kernel
theorem zd_law_1066 : decode code 1066 = .ok (.ifCond .ne 15, 3) := by decide +kernel
theorem zd_law_1069 : decode code 1069 = .ok (.aload_n 3, 1) := by decide +kernel
theorem zd_law_1070 : decode code 1070 = .ok (.iconst 0, 1) := by decide +kernel
theorem zd_law_1071 : decode code 1071 = .ok (.laload, 1) := by decide +kernel
theorem zd_law_1072 : decode code 1072 = .ok (.iload 6, 2) := by decide +kernel
theorem zd_law_1074 : decode code 1074 = .ok (.i2l, 1) := by decide +kernel
theorem zd_law_1075 : decode code 1075 = .ok (.lcmp, 1) := by decide +kernel
theorem zd_law_1076 : decode code 1076 = .ok (.ifCond .eq 5, 3) := by decide +kernel
theorem zd_law_1079 : decode code 1079 = .ok (.iconst 0, 1) := by decide +kernel
theorem zd_law_1080 : decode code 1080 = .ok (.ireturn, 1) := by decide +kernel
theorem zd_law_1081 : decode code 1081 = .ok (.goto 128, 3) := by decide +kernel
theorem zd_law_1084 : decode code 1084 = .ok (.aload_n 1, 1) := by decide +kernel
theorem zd_law_1085 : decode code 1085 = .ok (.aload_n 0, 1) := by decide +kernel
theorem zd_law_1086 : decode code 1086 = .ok (.iload 4, 2) := by decide +kernel
theorem zd_law_1088 : decode code 1088 = .ok (.iconst 1, 1) := by decide +kernel
theorem zd_law_1089 : decode code 1089 = .ok (.iadd, 1) := by decide +kernel
theorem zd_law_1090 : decode code 1090 = .ok (.iaload, 1) := by decide +kernel
theorem zd_law_1091 : decode code 1091 = .ok (.aload_n 3, 1) := by decide +kernel
theorem zd_law_1092 : decode code 1092 = .ok (.invokestatic 131, 3) := by decide +kernel
theorem zd_law_1095 : decode code 1095 = .ok (.istore 5, 2) := by decide +kernel
theorem zd_law_1097 : decode code 1097 = .ok (.aload_n 2, 1) := by decide +kernel
theorem zd_law_1098 : decode code 1098 = .ok (.aload_n 0, 1) := by decide +kernel
theorem zd_law_1099 : decode code 1099 = .ok (.iload 4, 2) := by decide +kernel
theorem zd_law_1101 : decode code 1101 = .ok (.iconst 1, 1) := by decide +kernel
theorem zd_law_1102 : decode code 1102 = .ok (.iadd, 1) := by decide +kernel
theorem zd_law_1103 : decode code 1103 = .ok (.iaload, 1) := by decide +kernel
theorem zd_law_1104 : decode code 1104 = .ok (.invokevirtual 133, 3) := by decide +kernel
theorem zd_law_1107 : decode code 1107 = .ok (.istore 6, 2) := by decide +kernel
theorem zd_law_1109 : decode code 1109 = .ok (.aload_n 2, 1) := by decide +kernel
theorem zd_law_1110 : decode code 1110 = .ok (.invokevirtual 82, 3) := by decide +kernel
theorem zd_law_1113 : decode code 1113 = .ok (.iload 5, 2) := by decide +kernel
theorem zd_law_1115 : decode code 1115 = .ok (.if_icmp .eq 5, 3) := by decide +kernel
theorem zd_law_1118 : decode code 1118 = .ok (.iconst 0, 1) := by decide +kernel
theorem zd_law_1119 : decode code 1119 = .ok (.ireturn, 1) := by decide +kernel
theorem zd_law_1120 : decode code 1120 = .ok (.iload 5, 2) := by decide +kernel
theorem zd_law_1122 : decode code 1122 = .ok (.ifCond .ne 15, 3) := by decide +kernel
theorem zd_law_1125 : decode code 1125 = .ok (.aload_n 3, 1) := by decide +kernel
theorem zd_law_1126 : decode code 1126 = .ok (.iconst 0, 1) := by decide +kernel
theorem zd_law_1127 : decode code 1127 = .ok (.laload, 1) := by decide +kernel
theorem zd_law_1128 : decode code 1128 = .ok (.iload 6, 2) := by decide +kernel
theorem zd_law_1130 : decode code 1130 = .ok (.i2l, 1) := by decide +kernel
theorem zd_law_1131 : decode code 1131 = .ok (.lcmp, 1) := by decide +kernel
theorem zd_law_1132 : decode code 1132 = .ok (.ifCond .eq 5, 3) := by decide +kernel
theorem zd_law_1135 : decode code 1135 = .ok (.iconst 0, 1) := by decide +kernel
theorem zd_law_1136 : decode code 1136 = .ok (.ireturn, 1) := by decide +kernel
theorem zd_law_1137 : decode code 1137 = .ok (.goto 72, 3) := by decide +kernel
theorem zd_law_1140 : decode code 1140 = .ok (.aload_n 1, 1) := by decide +kernel
theorem zd_law_1141 : decode code 1141 = .ok (.invokevirtual 134, 3) := by decide +kernel
theorem zd_law_1144 : decode code 1144 = .ok (.aload_n 2, 1) := by decide +kernel
theorem zd_law_1145 : decode code 1145 = .ok (.invokevirtual 137, 3) := by decide +kernel
theorem zd_law_1148 : decode code 1148 = .ok (.if_icmp .eq 61, 3) := by decide +kernel
theorem zd_law_1151 : decode code 1151 = .ok (.iconst 0, 1) := by decide +kernel
theorem zd_law_1152 : decode code 1152 = .ok (.ireturn, 1) := by decide +kernel
theorem zd_law_1153 : decode code 1153 = .ok (.aload_n 1, 1) := by decide +kernel
theorem zd_law_1154 : decode code 1154 = .ok (.aload_n 0, 1) := by decide +kernel
theorem zd_law_1155 : decode code 1155 = .ok (.iload 4, 2) := by decide +kernel
theorem zd_law_1157 : decode code 1157 = .ok (.iconst 1, 1) := by decide +kernel
theorem zd_law_1158 : decode code 1158 = .ok (.iadd, 1) := by decide +kernel
theorem zd_law_1159 : decode code 1159 = .ok (.iaload, 1) := by decide +kernel
theorem zd_law_1160 : decode code 1160 = .ok (.aload_n 3, 1) := by decide +kernel
theorem zd_law_1161 : decode code 1161 = .ok (.invokestatic 138, 3) := by decide +kernel
theorem zd_law_1164 : decode code 1164 = .ok (.istore 5, 2) := by decide +kernel
theorem zd_law_1166 : decode code 1166 = .ok (.aload_n 2, 1) := by decide +kernel
theorem zd_law_1167 : decode code 1167 = .ok (.aload_n 0, 1) := by decide +kernel
theorem zd_law_1168 : decode code 1168 = .ok (.iload 4, 2) := by decide +kernel
theorem zd_law_1170 : decode code 1170 = .ok (.iconst 1, 1) := by decide +kernel
theorem zd_law_1171 : decode code 1171 = .ok (.iadd, 1) := by decide +kernel
theorem zd_law_1172 : decode code 1172 = .ok (.iaload, 1) := by decide +kernel
theorem zd_law_1173 : decode code 1173 = .ok (.invokevirtual 140, 3) := by decide +kernel
theorem zd_law_1176 : decode code 1176 = .ok (.istore 6, 2) := by decide +kernel
theorem zd_law_1178 : decode code 1178 = .ok (.aload_n 2, 1) := by decide +kernel
theorem zd_law_1179 : decode code 1179 = .ok (.invokevirtual 82, 3) := by decide +kernel
theorem zd_law_1182 : decode code 1182 = .ok (.iload 5, 2) := by decide +kernel
theorem zd_law_1184 : decode code 1184 = .ok (.if_icmp .eq 5, 3) := by decide +kernel
theorem zd_law_1187 : decode code 1187 = .ok (.iconst 0, 1) := by decide +kernel
theorem zd_law_1188 : decode code 1188 = .ok (.ireturn, 1) := by decide +kernel
theorem zd_law_1189 : decode code 1189 = .ok (.iload 5, 2) := by decide +kernel
theorem zd_law_1191 : decode code 1191 = .ok (.ifCond .ne 15, 3) := by decide +kernel
theorem zd_law_1194 : decode code 1194 = .ok (.aload_n 3, 1) := by decide +kernel
theorem zd_law_1195 : decode code 1195 = .ok (.iconst 0, 1) := by decide +kernel
theorem zd_law_1196 : decode code 1196 = .ok (.laload, 1) := by decide +kernel
theorem zd_law_1197 : decode code 1197 = .ok (.iload 6, 2) := by decide +kernel
theorem zd_law_1199 : decode code 1199 = .ok (.i2l, 1) := by decide +kernel
theorem zd_law_1200 : decode code 1200 = .ok (.lcmp, 1) := by decide +kernel
theorem zd_law_1201 : decode code 1201 = .ok (.ifCond .eq 5, 3) := by decide +kernel
theorem zd_law_1204 : decode code 1204 = .ok (.iconst 0, 1) := by decide +kernel
theorem zd_law_1205 : decode code 1205 = .ok (.ireturn, 1) := by decide +kernel
theorem zd_law_1206 : decode code 1206 = .ok (.goto 3, 3) := by decide +kernel
theorem zd_law_1209 : decode code 1209 = .ok (.iinc 4 5, 3) := by decide +kernel
theorem zd_law_1212 : decode code 1212 = .ok (.goto (-1189), 3) := by decide +kernel
theorem zd_law_1215 : decode code 1215 = .ok (.iconst 1, 1) := by decide +kernel
theorem zd_law_1216 : decode code 1216 = .ok (.ireturn, 1) := by decide +kernel
