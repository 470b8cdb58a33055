theorem d_L_0 : decode code 0 = .ok (.new 8, 3) := by decide +kernel
theorem d_L_3 : decode code 3 = .ok (.dup, 1) := by decide +kernel
theorem d_L_4 : decode code 4 = .ok (.invokespecial 58, 3) := by decide +kernel
theorem d_L_7 : decode code 7 = .ok (.astore_n 1, 1) := by decide +kernel
theorem d_L_8 : decode code 8 = .ok (.new 59, 3) := by decide +kernel
theorem d_L_11 : decode code 11 = .ok (.dup, 1) := by decide +kernel
theorem d_L_12 : decode code 12 = .ok (.invokespecial 61, 3) := by decide +kernel
theorem d_L_15 : decode code 15 = .ok (.astore_n 2, 1) := by decide +kernel
theorem d_L_16 : decode code 16 = .ok (.iconst 1, 1) := by decide +kernel
theorem d_L_17 : decode code 17 = .ok (.newarray .long, 2) := by decide +kernel
theorem d_L_19 : decode code 19 = .ok (.astore_n 3, 1) := by decide +kernel
theorem d_L_20 : decode code 20 = .ok (.iconst 0, 1) := by decide +kernel
theorem d_L_21 : decode code 21 = .ok (.istore 4, 2) := by decide +kernel
theorem d_L_23 : decode code 23 = .ok (.iload 4, 2) := by decide +kernel
theorem d_L_25 : decode code 25 = .ok (.aload_n 0, 1) := by decide +kernel
theorem d_L_26 : decode code 26 = .ok (.arraylength, 1) := by decide +kernel
theorem d_L_27 : decode code 27 = .ok (.bipush 8, 2) := by decide +kernel
theorem d_L_29 : decode code 29 = .ok (.isub, 1) := by decide +kernel
theorem d_L_30 : decode code 30 = .ok (.if_icmp .gt 1368, 3) := by decide +kernel
theorem d_L_33 : decode code 33 = .ok (.aload_n 0, 1) := by decide +kernel
theorem d_L_34 : decode code 34 = .ok (.iload 4, 2) := by decide +kernel
theorem d_L_36 : decode code 36 = .ok (.iaload, 1) := by decide +kernel
theorem d_L_37 : decode code 37 = .ok (.bipush 31, 2) := by decide +kernel
theorem d_L_39 : decode code 39 = .ok (.iand, 1) := by decide +kernel
theorem d_L_40 : decode code 40 = .ok (.tableswitch 1352 0 19 #[96, 137, 329, 424, 512, 537, 550, 575, 740, 831, 911, 974, 987, 1055, 1111, 1136, 1150, 1257, 1271, 1327], 96) := by decide +kernel
theorem d_L_136 : decode code 136 = .ok (.aload_n 1, 1) := by decide +kernel
theorem d_L_137 : decode code 137 = .ok (.aload_n 0, 1) := by decide +kernel
theorem d_L_138 : decode code 138 = .ok (.iload 4, 2) := by decide +kernel
theorem d_L_140 : decode code 140 = .ok (.iconst 1, 1) := by decide +kernel
theorem d_L_141 : decode code 141 = .ok (.iadd, 1) := by decide +kernel
theorem d_L_142 : decode code 142 = .ok (.iaload, 1) := by decide +kernel
theorem d_L_143 : decode code 143 = .ok (.ifCond .eq 7, 3) := by decide +kernel
theorem d_L_146 : decode code 146 = .ok (.iconst 1, 1) := by decide +kernel
theorem d_L_147 : decode code 147 = .ok (.goto 4, 3) := by decide +kernel
theorem d_L_150 : decode code 150 = .ok (.iconst 0, 1) := by decide +kernel
theorem d_L_151 : decode code 151 = .ok (.invokevirtual 62, 3) := by decide +kernel
theorem d_L_154 : decode code 154 = .ok (.aload_n 2, 1) := by decide +kernel
theorem d_L_155 : decode code 155 = .ok (.aload_n 0, 1) := by decide +kernel
theorem d_L_156 : decode code 156 = .ok (.iload 4, 2) := by decide +kernel
theorem d_L_158 : decode code 158 = .ok (.iconst 1, 1) := by decide +kernel
theorem d_L_159 : decode code 159 = .ok (.iadd, 1) := by decide +kernel
theorem d_L_160 : decode code 160 = .ok (.iaload, 1) := by decide +kernel
theorem d_L_161 : decode code 161 = .ok (.ifCond .eq 7, 3) := by decide +kernel
theorem d_L_164 : decode code 164 = .ok (.iconst 1, 1) := by decide +kernel
theorem d_L_165 : decode code 165 = .ok (.goto 4, 3) := by decide +kernel
theorem d_L_168 : decode code 168 = .ok (.iconst 0, 1) := by decide +kernel
theorem d_L_169 : decode code 169 = .ok (.invokevirtual 66, 3) := by decide +kernel
theorem d_L_172 : decode code 172 = .ok (.if_icmp .eq 1220, 3) := by decide +kernel
theorem d_L_175 : decode code 175 = .ok (.iconst 0, 1) := by decide +kernel
theorem d_L_176 : decode code 176 = .ok (.ireturn, 1) := by decide +kernel
theorem d_L_177 : decode code 177 = .ok (.aload_n 1, 1) := by decide +kernel
theorem d_L_178 : decode code 178 = .ok (.aload_n 0, 1) := by decide +kernel
theorem d_L_179 : decode code 179 = .ok (.iload 4, 2) := by decide +kernel
theorem d_L_181 : decode code 181 = .ok (.iconst 1, 1) := by decide +kernel
theorem d_L_182 : decode code 182 = .ok (.iadd, 1) := by decide +kernel
theorem d_L_183 : decode code 183 = .ok (.iaload, 1) := by decide +kernel
theorem d_L_184 : decode code 184 = .ok (.aload_n 0, 1) := by decide +kernel
theorem d_L_185 : decode code 185 = .ok (.iload 4, 2) := by decide +kernel
theorem d_L_187 : decode code 187 = .ok (.iconst 2, 1) := by decide +kernel
theorem d_L_188 : decode code 188 = .ok (.iadd, 1) := by decide +kernel
theorem d_L_189 : decode code 189 = .ok (.iaload, 1) := by decide +kernel
theorem d_L_190 : decode code 190 = .ok (.i2l, 1) := by decide +kernel
theorem d_L_191 : decode code 191 = .ok (.bipush 32, 2) := by decide +kernel
theorem d_L_193 : decode code 193 = .ok (.lshl, 1) := by decide +kernel
theorem d_L_194 : decode code 194 = .ok (.aload_n 0, 1) := by decide +kernel
theorem d_L_195 : decode code 195 = .ok (.iload 4, 2) := by decide +kernel
theorem d_L_197 : decode code 197 = .ok (.iconst 3, 1) := by decide +kernel
theorem d_L_198 : decode code 198 = .ok (.iadd, 1) := by decide +kernel
theorem d_L_199 : decode code 199 = .ok (.iaload, 1) := by decide +kernel
theorem d_L_200 : decode code 200 = .ok (.i2l, 1) := by decide +kernel
theorem d_L_201 : decode code 201 = .ok (.ldc2_w 67, 3) := by decide +kernel
theorem d_L_204 : decode code 204 = .ok (.land, 1) := by decide +kernel
theorem d_L_205 : decode code 205 = .ok (.lor, 1) := by decide +kernel
theorem d_L_206 : decode code 206 = .ok (.aload_n 0, 1) := by decide +kernel
theorem d_L_207 : decode code 207 = .ok (.iload 4, 2) := by decide +kernel
theorem d_L_209 : decode code 209 = .ok (.iconst 4, 1) := by decide +kernel
theorem d_L_210 : decode code 210 = .ok (.iadd, 1) := by decide +kernel
theorem d_L_211 : decode code 211 = .ok (.iaload, 1) := by decide +kernel
theorem d_L_212 : decode code 212 = .ok (.i2l, 1) := by decide +kernel
theorem d_L_213 : decode code 213 = .ok (.bipush 32, 2) := by decide +kernel
theorem d_L_215 : decode code 215 = .ok (.lshl, 1) := by decide +kernel
theorem d_L_216 : decode code 216 = .ok (.aload_n 0, 1) := by decide +kernel
theorem d_L_217 : decode code 217 = .ok (.iload 4, 2) := by decide +kernel
theorem d_L_219 : decode code 219 = .ok (.iconst 5, 1) := by decide +kernel
theorem d_L_220 : decode code 220 = .ok (.iadd, 1) := by decide +kernel
theorem d_L_221 : decode code 221 = .ok (.iaload, 1) := by decide +kernel
theorem d_L_222 : decode code 222 = .ok (.i2l, 1) := by decide +kernel
theorem d_L_223 : decode code 223 = .ok (.ldc2_w 67, 3) := by decide +kernel
theorem d_L_226 : decode code 226 = .ok (.land, 1) := by decide +kernel
theorem d_L_227 : decode code 227 = .ok (.lor, 1) := by decide +kernel
theorem d_L_228 : decode code 228 = .ok (.aload_n 0, 1) := by decide +kernel
theorem d_L_229 : decode code 229 = .ok (.iload 4, 2) := by decide +kernel
theorem d_L_231 : decode code 231 = .ok (.bipush 6, 2) := by decide +kernel
theorem d_L_233 : decode code 233 = .ok (.iadd, 1) := by decide +kernel
theorem d_L_234 : decode code 234 = .ok (.iaload, 1) := by decide +kernel
theorem d_L_235 : decode code 235 = .ok (.i2l, 1) := by decide +kernel
theorem d_L_236 : decode code 236 = .ok (.bipush 32, 2) := by decide +kernel
theorem d_L_238 : decode code 238 = .ok (.lshl, 1) := by decide +kernel
theorem d_L_239 : decode code 239 = .ok (.aload_n 0, 1) := by decide +kernel
theorem d_L_240 : decode code 240 = .ok (.iload 4, 2) := by decide +kernel
theorem d_L_242 : decode code 242 = .ok (.bipush 7, 2) := by decide +kernel
theorem d_L_244 : decode code 244 = .ok (.iadd, 1) := by decide +kernel
theorem d_L_245 : decode code 245 = .ok (.iaload, 1) := by decide +kernel
theorem d_L_246 : decode code 246 = .ok (.i2l, 1) := by decide +kernel
theorem d_L_247 : decode code 247 = .ok (.ldc2_w 67, 3) := by decide +kernel
theorem d_L_250 : decode code 250 = .ok (.land, 1) := by decide +kernel
theorem d_L_251 : decode code 251 = .ok (.lor, 1) := by decide +kernel
theorem d_L_252 : decode code 252 = .ok (.aload_n 3, 1) := by decide +kernel
theorem d_L_253 : decode code 253 = .ok (.invokestatic 69, 3) := by decide +kernel
theorem d_L_256 : decode code 256 = .ok (.istore 5, 2) := by decide +kernel
theorem d_L_258 : decode code 258 = .ok (.aload_n 2, 1) := by decide +kernel
theorem d_L_259 : decode code 259 = .ok (.aload_n 0, 1) := by decide +kernel
theorem d_L_260 : decode code 260 = .ok (.iload 4, 2) := by decide +kernel
theorem d_L_262 : decode code 262 = .ok (.iconst 1, 1) := by decide +kernel
theorem d_L_263 : decode code 263 = .ok (.iadd, 1) := by decide +kernel
theorem d_L_264 : decode code 264 = .ok (.iaload, 1) := by decide +kernel
theorem d_L_265 : decode code 265 = .ok (.aload_n 0, 1) := by decide +kernel
theorem d_L_266 : decode code 266 = .ok (.iload 4, 2) := by decide +kernel
theorem d_L_268 : decode code 268 = .ok (.iconst 2, 1) := by decide +kernel
theorem d_L_269 : decode code 269 = .ok (.iadd, 1) := by decide +kernel
theorem d_L_270 : decode code 270 = .ok (.iaload, 1) := by decide +kernel
theorem d_L_271 : decode code 271 = .ok (.i2l, 1) := by decide +kernel
theorem d_L_272 : decode code 272 = .ok (.bipush 32, 2) := by decide +kernel
theorem d_L_274 : decode code 274 = .ok (.lshl, 1) := by decide +kernel
theorem d_L_275 : decode code 275 = .ok (.aload_n 0, 1) := by decide +kernel
theorem d_L_276 : decode code 276 = .ok (.iload 4, 2) := by decide +kernel
theorem d_L_278 : decode code 278 = .ok (.iconst 3, 1) := by decide +kernel
theorem d_L_279 : decode code 279 = .ok (.iadd, 1) := by decide +kernel
theorem d_L_280 : decode code 280 = .ok (.iaload, 1) := by decide +kernel
theorem d_L_281 : decode code 281 = .ok (.i2l, 1) := by decide +kernel
theorem d_L_282 : decode code 282 = .ok (.ldc2_w 67, 3) := by decide +kernel
theorem d_L_285 : decode code 285 = .ok (.land, 1) := by decide +kernel
theorem d_L_286 : decode code 286 = .ok (.lor, 1) := by decide +kernel
theorem d_L_287 : decode code 287 = .ok (.aload_n 0, 1) := by decide +kernel
theorem d_L_288 : decode code 288 = .ok (.iload 4, 2) := by decide +kernel
theorem d_L_290 : decode code 290 = .ok (.iconst 4, 1) := by decide +kernel
theorem d_L_291 : decode code 291 = .ok (.iadd, 1) := by decide +kernel
theorem d_L_292 : decode code 292 = .ok (.iaload, 1) := by decide +kernel
theorem d_L_293 : decode code 293 = .ok (.i2l, 1) := by decide +kernel
theorem d_L_294 : decode code 294 = .ok (.bipush 32, 2) := by decide +kernel
theorem d_L_296 : decode code 296 = .ok (.lshl, 1) := by decide +kernel
theorem d_L_297 : decode code 297 = .ok (.aload_n 0, 1) := by decide +kernel
theorem d_L_298 : decode code 298 = .ok (.iload 4, 2) := by decide +kernel
theorem d_L_300 : decode code 300 = .ok (.iconst 5, 1) := by decide +kernel
theorem d_L_301 : decode code 301 = .ok (.iadd, 1) := by decide +kernel
theorem d_L_302 : decode code 302 = .ok (.iaload, 1) := by decide +kernel
theorem d_L_303 : decode code 303 = .ok (.i2l, 1) := by decide +kernel
theorem d_L_304 : decode code 304 = .ok (.ldc2_w 67, 3) := by decide +kernel
theorem d_L_307 : decode code 307 = .ok (.land, 1) := by decide +kernel
theorem d_L_308 : decode code 308 = .ok (.lor, 1) := by decide +kernel
theorem d_L_309 : decode code 309 = .ok (.aload_n 0, 1) := by decide +kernel
theorem d_L_310 : decode code 310 = .ok (.iload 4, 2) := by decide +kernel
theorem d_L_312 : decode code 312 = .ok (.bipush 6, 2) := by decide +kernel
theorem d_L_314 : decode code 314 = .ok (.iadd, 1) := by decide +kernel
theorem d_L_315 : decode code 315 = .ok (.iaload, 1) := by decide +kernel
theorem d_L_316 : decode code 316 = .ok (.i2l, 1) := by decide +kernel
theorem d_L_317 : decode code 317 = .ok (.bipush 32, 2) := by decide +kernel
theorem d_L_319 : decode code 319 = .ok (.lshl, 1) := by decide +kernel
theorem d_L_320 : decode code 320 = .ok (.aload_n 0, 1) := by decide +kernel
theorem d_L_321 : decode code 321 = .ok (.iload 4, 2) := by decide +kernel
theorem d_L_323 : decode code 323 = .ok (.bipush 7, 2) := by decide +kernel
theorem d_L_325 : decode code 325 = .ok (.iadd, 1) := by decide +kernel
theorem d_L_326 : decode code 326 = .ok (.iaload, 1) := by decide +kernel
theorem d_L_327 : decode code 327 = .ok (.i2l, 1) := by decide +kernel
theorem d_L_328 : decode code 328 = .ok (.ldc2_w 67, 3) := by decide +kernel
theorem d_L_331 : decode code 331 = .ok (.land, 1) := by decide +kernel
theorem d_L_332 : decode code 332 = .ok (.lor, 1) := by decide +kernel
theorem d_L_333 : decode code 333 = .ok (.invokevirtual 74, 3) := by decide +kernel
theorem d_L_336 : decode code 336 = .ok (.istore 6, 2) := by decide +kernel
theorem d_L_338 : decode code 338 = .ok (.aload_n 2, 1) := by decide +kernel
theorem d_L_339 : decode code 339 = .ok (.invokevirtual 75, 3) := by decide +kernel
theorem d_L_342 : decode code 342 = .ok (.iload 5, 2) := by decide +kernel
theorem d_L_344 : decode code 344 = .ok (.if_icmp .eq 5, 3) := by decide +kernel
theorem d_L_347 : decode code 347 = .ok (.iconst 0, 1) := by decide +kernel
theorem d_L_348 : decode code 348 = .ok (.ireturn, 1) := by decide +kernel
theorem d_L_349 : decode code 349 = .ok (.iload 5, 2) := by decide +kernel
theorem d_L_351 : decode code 351 = .ok (.ifCond .ne 15, 3) := by decide +kernel
theorem d_L_354 : decode code 354 = .ok (.aload_n 3, 1) := by decide +kernel
theorem d_L_355 : decode code 355 = .ok (.iconst 0, 1) := by decide +kernel
theorem d_L_356 : decode code 356 = .ok (.laload, 1) := by decide +kernel
theorem d_L_357 : decode code 357 = .ok (.iload 6, 2) := by decide +kernel
theorem d_L_359 : decode code 359 = .ok (.i2l, 1) := by decide +kernel
theorem d_L_360 : decode code 360 = .ok (.lcmp, 1) := by decide +kernel
theorem d_L_361 : decode code 361 = .ok (.ifCond .eq 5, 3) := by decide +kernel
theorem d_L_364 : decode code 364 = .ok (.iconst 0, 1) := by decide +kernel
theorem d_L_365 : decode code 365 = .ok (.ireturn, 1) := by decide +kernel
theorem d_L_366 : decode code 366 = .ok (.goto 1026, 3) := by decide +kernel
theorem d_L_369 : decode code 369 = .ok (.aload_n 1, 1) := by decide +kernel
theorem d_L_370 : decode code 370 = .ok (.aload_n 0, 1) := by decide +kernel
theorem d_L_371 : decode code 371 = .ok (.iload 4, 2) := by decide +kernel
theorem d_L_373 : decode code 373 = .ok (.iconst 1, 1) := by decide +kernel
theorem d_L_374 : decode code 374 = .ok (.iadd, 1) := by decide +kernel
theorem d_L_375 : decode code 375 = .ok (.iaload, 1) := by decide +kernel
theorem d_L_376 : decode code 376 = .ok (.i2l, 1) := by decide +kernel
theorem d_L_377 : decode code 377 = .ok (.bipush 32, 2) := by decide +kernel
theorem d_L_379 : decode code 379 = .ok (.lshl, 1) := by decide +kernel
theorem d_L_380 : decode code 380 = .ok (.aload_n 0, 1) := by decide +kernel
theorem d_L_381 : decode code 381 = .ok (.iload 4, 2) := by decide +kernel
theorem d_L_383 : decode code 383 = .ok (.iconst 2, 1) := by decide +kernel
theorem d_L_384 : decode code 384 = .ok (.iadd, 1) := by decide +kernel
theorem d_L_385 : decode code 385 = .ok (.iaload, 1) := by decide +kernel
theorem d_L_386 : decode code 386 = .ok (.i2l, 1) := by decide +kernel
theorem d_L_387 : decode code 387 = .ok (.ldc2_w 67, 3) := by decide +kernel
theorem d_L_390 : decode code 390 = .ok (.land, 1) := by decide +kernel
theorem d_L_391 : decode code 391 = .ok (.lor, 1) := by decide +kernel
theorem d_L_392 : decode code 392 = .ok (.aload_n 3, 1) := by decide +kernel
theorem d_L_393 : decode code 393 = .ok (.invokestatic 79, 3) := by decide +kernel
theorem d_L_396 : decode code 396 = .ok (.istore 5, 2) := by decide +kernel
theorem d_L_398 : decode code 398 = .ok (.aload_n 2, 1) := by decide +kernel
theorem d_L_399 : decode code 399 = .ok (.aload_n 0, 1) := by decide +kernel
theorem d_L_400 : decode code 400 = .ok (.iload 4, 2) := by decide +kernel
theorem d_L_402 : decode code 402 = .ok (.iconst 1, 1) := by decide +kernel
theorem d_L_403 : decode code 403 = .ok (.iadd, 1) := by decide +kernel
theorem d_L_404 : decode code 404 = .ok (.iaload, 1) := by decide +kernel
theorem d_L_405 : decode code 405 = .ok (.i2l, 1) := by decide +kernel
theorem d_L_406 : decode code 406 = .ok (.bipush 32, 2) := by decide +kernel
theorem d_L_408 : decode code 408 = .ok (.lshl, 1) := by decide +kernel
theorem d_L_409 : decode code 409 = .ok (.aload_n 0, 1) := by decide +kernel
theorem d_L_410 : decode code 410 = .ok (.iload 4, 2) := by decide +kernel
theorem d_L_412 : decode code 412 = .ok (.iconst 2, 1) := by decide +kernel
theorem d_L_413 : decode code 413 = .ok (.iadd, 1) := by decide +kernel
theorem d_L_414 : decode code 414 = .ok (.iaload, 1) := by decide +kernel
theorem d_L_415 : decode code 415 = .ok (.i2l, 1) := by decide +kernel
theorem d_L_416 : decode code 416 = .ok (.ldc2_w 67, 3) := by decide +kernel
theorem d_L_419 : decode code 419 = .ok (.land, 1) := by decide +kernel
theorem d_L_420 : decode code 420 = .ok (.lor, 1) := by decide +kernel
theorem d_L_421 : decode code 421 = .ok (.invokevirtual 82, 3) := by decide +kernel
theorem d_L_424 : decode code 424 = .ok (.istore 6, 2) := by decide +kernel
theorem d_L_426 : decode code 426 = .ok (.aload_n 2, 1) := by decide +kernel
theorem d_L_427 : decode code 427 = .ok (.invokevirtual 75, 3) := by decide +kernel
theorem d_L_430 : decode code 430 = .ok (.iload 5, 2) := by decide +kernel
theorem d_L_432 : decode code 432 = .ok (.if_icmp .eq 5, 3) := by decide +kernel
theorem d_L_435 : decode code 435 = .ok (.iconst 0, 1) := by decide +kernel
theorem d_L_436 : decode code 436 = .ok (.ireturn, 1) := by decide +kernel
theorem d_L_437 : decode code 437 = .ok (.iload 5, 2) := by decide +kernel
theorem d_L_439 : decode code 439 = .ok (.ifCond .ne 22, 3) := by decide +kernel
theorem d_L_442 : decode code 442 = .ok (.aload_n 3, 1) := by decide +kernel
theorem d_L_443 : decode code 443 = .ok (.iconst 0, 1) := by decide +kernel
theorem d_L_444 : decode code 444 = .ok (.laload, 1) := by decide +kernel
theorem d_L_445 : decode code 445 = .ok (.iload 6, 2) := by decide +kernel
theorem d_L_447 : decode code 447 = .ok (.ifCond .eq 7, 3) := by decide +kernel
theorem d_L_450 : decode code 450 = .ok (.lconst 1, 1) := by decide +kernel
theorem d_L_451 : decode code 451 = .ok (.goto 4, 3) := by decide +kernel
theorem d_L_454 : decode code 454 = .ok (.lconst 0, 1) := by decide +kernel
theorem d_L_455 : decode code 455 = .ok (.lcmp, 1) := by decide +kernel
theorem d_L_456 : decode code 456 = .ok (.ifCond .eq 5, 3) := by decide +kernel
theorem d_L_459 : decode code 459 = .ok (.iconst 0, 1) := by decide +kernel
theorem d_L_460 : decode code 460 = .ok (.ireturn, 1) := by decide +kernel
theorem d_L_461 : decode code 461 = .ok (.goto 931, 3) := by decide +kernel
theorem d_L_464 : decode code 464 = .ok (.aload_n 1, 1) := by decide +kernel
theorem d_L_465 : decode code 465 = .ok (.aload_n 0, 1) := by decide +kernel
theorem d_L_466 : decode code 466 = .ok (.iload 4, 2) := by decide +kernel
theorem d_L_468 : decode code 468 = .ok (.iconst 1, 1) := by decide +kernel
theorem d_L_469 : decode code 469 = .ok (.iadd, 1) := by decide +kernel
theorem d_L_470 : decode code 470 = .ok (.iaload, 1) := by decide +kernel
theorem d_L_471 : decode code 471 = .ok (.i2l, 1) := by decide +kernel
theorem d_L_472 : decode code 472 = .ok (.bipush 32, 2) := by decide +kernel
theorem d_L_474 : decode code 474 = .ok (.lshl, 1) := by decide +kernel
theorem d_L_475 : decode code 475 = .ok (.aload_n 0, 1) := by decide +kernel
theorem d_L_476 : decode code 476 = .ok (.iload 4, 2) := by decide +kernel
theorem d_L_478 : decode code 478 = .ok (.iconst 2, 1) := by decide +kernel
theorem d_L_479 : decode code 479 = .ok (.iadd, 1) := by decide +kernel
theorem d_L_480 : decode code 480 = .ok (.iaload, 1) := by decide +kernel
theorem d_L_481 : decode code 481 = .ok (.i2l, 1) := by decide +kernel
theorem d_L_482 : decode code 482 = .ok (.ldc2_w 67, 3) := by decide +kernel
theorem d_L_485 : decode code 485 = .ok (.land, 1) := by decide +kernel
theorem d_L_486 : decode code 486 = .ok (.lor, 1) := by decide +kernel
theorem d_L_487 : decode code 487 = .ok (.aload_n 3, 1) := by decide +kernel
theorem d_L_488 : decode code 488 = .ok (.invokestatic 83, 3) := by decide +kernel
theorem d_L_491 : decode code 491 = .ok (.istore 5, 2) := by decide +kernel
theorem d_L_493 : decode code 493 = .ok (.aload_n 2, 1) := by decide +kernel
theorem d_L_494 : decode code 494 = .ok (.aload_n 0, 1) := by decide +kernel
theorem d_L_495 : decode code 495 = .ok (.iload 4, 2) := by decide +kernel
theorem d_L_497 : decode code 497 = .ok (.iconst 1, 1) := by decide +kernel
theorem d_L_498 : decode code 498 = .ok (.iadd, 1) := by decide +kernel
theorem d_L_499 : decode code 499 = .ok (.iaload, 1) := by decide +kernel
theorem d_L_500 : decode code 500 = .ok (.i2l, 1) := by decide +kernel
theorem d_L_501 : decode code 501 = .ok (.bipush 32, 2) := by decide +kernel
theorem d_L_503 : decode code 503 = .ok (.lshl, 1) := by decide +kernel
theorem d_L_504 : decode code 504 = .ok (.aload_n 0, 1) := by decide +kernel
theorem d_L_505 : decode code 505 = .ok (.iload 4, 2) := by decide +kernel
theorem d_L_507 : decode code 507 = .ok (.iconst 2, 1) := by decide +kernel
theorem d_L_508 : decode code 508 = .ok (.iadd, 1) := by decide +kernel
theorem d_L_509 : decode code 509 = .ok (.iaload, 1) := by decide +kernel
theorem d_L_510 : decode code 510 = .ok (.i2l, 1) := by decide +kernel
theorem d_L_511 : decode code 511 = .ok (.ldc2_w 67, 3) := by decide +kernel
theorem d_L_514 : decode code 514 = .ok (.land, 1) := by decide +kernel
theorem d_L_515 : decode code 515 = .ok (.lor, 1) := by decide +kernel
theorem d_L_516 : decode code 516 = .ok (.invokevirtual 85, 3) := by decide +kernel
theorem d_L_519 : decode code 519 = .ok (.istore 6, 2) := by decide +kernel
theorem d_L_521 : decode code 521 = .ok (.aload_n 2, 1) := by decide +kernel
theorem d_L_522 : decode code 522 = .ok (.invokevirtual 75, 3) := by decide +kernel
theorem d_L_525 : decode code 525 = .ok (.iload 5, 2) := by decide +kernel
theorem d_L_527 : decode code 527 = .ok (.if_icmp .eq 5, 3) := by decide +kernel
theorem d_L_530 : decode code 530 = .ok (.iconst 0, 1) := by decide +kernel
theorem d_L_531 : decode code 531 = .ok (.ireturn, 1) := by decide +kernel
theorem d_L_532 : decode code 532 = .ok (.iload 5, 2) := by decide +kernel
theorem d_L_534 : decode code 534 = .ok (.ifCond .ne 15, 3) := by decide +kernel
theorem d_L_537 : decode code 537 = .ok (.aload_n 3, 1) := by decide +kernel
theorem d_L_538 : decode code 538 = .ok (.iconst 0, 1) := by decide +kernel
theorem d_L_539 : decode code 539 = .ok (.laload, 1) := by decide +kernel
theorem d_L_540 : decode code 540 = .ok (.iload 6, 2) := by decide +kernel
theorem d_L_542 : decode code 542 = .ok (.i2l, 1) := by decide +kernel
theorem d_L_543 : decode code 543 = .ok (.lcmp, 1) := by decide +kernel
theorem d_L_544 : decode code 544 = .ok (.ifCond .eq 5, 3) := by decide +kernel
theorem d_L_547 : decode code 547 = .ok (.iconst 0, 1) := by decide +kernel
theorem d_L_548 : decode code 548 = .ok (.ireturn, 1) := by decide +kernel
theorem d_L_549 : decode code 549 = .ok (.goto 843, 3) := by decide +kernel
theorem d_L_552 : decode code 552 = .ok (.aload_n 1, 1) := by decide +kernel
theorem d_L_553 : decode code 553 = .ok (.aload_n 0, 1) := by decide +kernel
theorem d_L_554 : decode code 554 = .ok (.iload 4, 2) := by decide +kernel
theorem d_L_556 : decode code 556 = .ok (.iconst 1, 1) := by decide +kernel
theorem d_L_557 : decode code 557 = .ok (.iadd, 1) := by decide +kernel
theorem d_L_558 : decode code 558 = .ok (.iaload, 1) := by decide +kernel
theorem d_L_559 : decode code 559 = .ok (.invokevirtual 86, 3) := by decide +kernel
theorem d_L_562 : decode code 562 = .ok (.aload_n 2, 1) := by decide +kernel
theorem d_L_563 : decode code 563 = .ok (.aload_n 0, 1) := by decide +kernel
theorem d_L_564 : decode code 564 = .ok (.iload 4, 2) := by decide +kernel
theorem d_L_566 : decode code 566 = .ok (.iconst 1, 1) := by decide +kernel
theorem d_L_567 : decode code 567 = .ok (.iadd, 1) := by decide +kernel
theorem d_L_568 : decode code 568 = .ok (.iaload, 1) := by decide +kernel
theorem d_L_569 : decode code 569 = .ok (.invokevirtual 89, 3) := by decide +kernel
theorem d_L_572 : decode code 572 = .ok (.if_icmp .eq 820, 3) := by decide +kernel
theorem d_L_575 : decode code 575 = .ok (.iconst 0, 1) := by decide +kernel
theorem d_L_576 : decode code 576 = .ok (.ireturn, 1) := by decide +kernel
theorem d_L_577 : decode code 577 = .ok (.aload_n 1, 1) := by decide +kernel
theorem d_L_578 : decode code 578 = .ok (.invokevirtual 90, 3) := by decide +kernel
theorem d_L_581 : decode code 581 = .ok (.aload_n 2, 1) := by decide +kernel
theorem d_L_582 : decode code 582 = .ok (.invokevirtual 94, 3) := by decide +kernel
theorem d_L_585 : decode code 585 = .ok (.if_icmp .eq 807, 3) := by decide +kernel
theorem d_L_588 : decode code 588 = .ok (.iconst 0, 1) := by decide +kernel
theorem d_L_589 : decode code 589 = .ok (.ireturn, 1) := by decide +kernel
theorem d_L_590 : decode code 590 = .ok (.aload_n 1, 1) := by decide +kernel
theorem d_L_591 : decode code 591 = .ok (.aload_n 0, 1) := by decide +kernel
theorem d_L_592 : decode code 592 = .ok (.iload 4, 2) := by decide +kernel
theorem d_L_594 : decode code 594 = .ok (.iconst 1, 1) := by decide +kernel
theorem d_L_595 : decode code 595 = .ok (.iadd, 1) := by decide +kernel
theorem d_L_596 : decode code 596 = .ok (.iaload, 1) := by decide +kernel
theorem d_L_597 : decode code 597 = .ok (.invokevirtual 95, 3) := by decide +kernel
theorem d_L_600 : decode code 600 = .ok (.aload_n 2, 1) := by decide +kernel
theorem d_L_601 : decode code 601 = .ok (.aload_n 0, 1) := by decide +kernel
theorem d_L_602 : decode code 602 = .ok (.iload 4, 2) := by decide +kernel
theorem d_L_604 : decode code 604 = .ok (.iconst 1, 1) := by decide +kernel
theorem d_L_605 : decode code 605 = .ok (.iadd, 1) := by decide +kernel
theorem d_L_606 : decode code 606 = .ok (.iaload, 1) := by decide +kernel
theorem d_L_607 : decode code 607 = .ok (.invokevirtual 98, 3) := by decide +kernel
theorem d_L_610 : decode code 610 = .ok (.if_icmp .eq 782, 3) := by decide +kernel
theorem d_L_613 : decode code 613 = .ok (.iconst 0, 1) := by decide +kernel
theorem d_L_614 : decode code 614 = .ok (.ireturn, 1) := by decide +kernel
theorem d_L_615 : decode code 615 = .ok (.aload_n 1, 1) := by decide +kernel
theorem d_L_616 : decode code 616 = .ok (.aload_n 0, 1) := by decide +kernel
theorem d_L_617 : decode code 617 = .ok (.iload 4, 2) := by decide +kernel
theorem d_L_619 : decode code 619 = .ok (.iconst 1, 1) := by decide +kernel
theorem d_L_620 : decode code 620 = .ok (.iadd, 1) := by decide +kernel
theorem d_L_621 : decode code 621 = .ok (.iaload, 1) := by decide +kernel
theorem d_L_622 : decode code 622 = .ok (.aload_n 0, 1) := by decide +kernel
theorem d_L_623 : decode code 623 = .ok (.iload 4, 2) := by decide +kernel
theorem d_L_625 : decode code 625 = .ok (.iconst 2, 1) := by decide +kernel
theorem d_L_626 : decode code 626 = .ok (.iadd, 1) := by decide +kernel
theorem d_L_627 : decode code 627 = .ok (.iaload, 1) := by decide +kernel
theorem d_L_628 : decode code 628 = .ok (.aload_n 0, 1) := by decide +kernel
theorem d_L_629 : decode code 629 = .ok (.iload 4, 2) := by decide +kernel
theorem d_L_631 : decode code 631 = .ok (.iconst 3, 1) := by decide +kernel
theorem d_L_632 : decode code 632 = .ok (.iadd, 1) := by decide +kernel
theorem d_L_633 : decode code 633 = .ok (.iaload, 1) := by decide +kernel
theorem d_L_634 : decode code 634 = .ok (.i2l, 1) := by decide +kernel
theorem d_L_635 : decode code 635 = .ok (.bipush 32, 2) := by decide +kernel
theorem d_L_637 : decode code 637 = .ok (.lshl, 1) := by decide +kernel
theorem d_L_638 : decode code 638 = .ok (.aload_n 0, 1) := by decide +kernel
theorem d_L_639 : decode code 639 = .ok (.iload 4, 2) := by decide +kernel
theorem d_L_641 : decode code 641 = .ok (.iconst 4, 1) := by decide +kernel
theorem d_L_642 : decode code 642 = .ok (.iadd, 1) := by decide +kernel
theorem d_L_643 : decode code 643 = .ok (.iaload, 1) := by decide +kernel
theorem d_L_644 : decode code 644 = .ok (.i2l, 1) := by decide +kernel
theorem d_L_645 : decode code 645 = .ok (.ldc2_w 67, 3) := by decide +kernel
theorem d_L_648 : decode code 648 = .ok (.land, 1) := by decide +kernel
theorem d_L_649 : decode code 649 = .ok (.lor, 1) := by decide +kernel
theorem d_L_650 : decode code 650 = .ok (.aload_n 0, 1) := by decide +kernel
theorem d_L_651 : decode code 651 = .ok (.iload 4, 2) := by decide +kernel
theorem d_L_653 : decode code 653 = .ok (.iconst 5, 1) := by decide +kernel
theorem d_L_654 : decode code 654 = .ok (.iadd, 1) := by decide +kernel
theorem d_L_655 : decode code 655 = .ok (.iaload, 1) := by decide +kernel
theorem d_L_656 : decode code 656 = .ok (.i2l, 1) := by decide +kernel
theorem d_L_657 : decode code 657 = .ok (.bipush 32, 2) := by decide +kernel
theorem d_L_659 : decode code 659 = .ok (.lshl, 1) := by decide +kernel
theorem d_L_660 : decode code 660 = .ok (.aload_n 0, 1) := by decide +kernel
theorem d_L_661 : decode code 661 = .ok (.iload 4, 2) := by decide +kernel
theorem d_L_663 : decode code 663 = .ok (.bipush 6, 2) := by decide +kernel
theorem d_L_665 : decode code 665 = .ok (.iadd, 1) := by decide +kernel
theorem d_L_666 : decode code 666 = .ok (.iaload, 1) := by decide +kernel
theorem d_L_667 : decode code 667 = .ok (.i2l, 1) := by decide +kernel
theorem d_L_668 : decode code 668 = .ok (.ldc2_w 67, 3) := by decide +kernel
theorem d_L_671 : decode code 671 = .ok (.land, 1) := by decide +kernel
theorem d_L_672 : decode code 672 = .ok (.lor, 1) := by decide +kernel
theorem d_L_673 : decode code 673 = .ok (.aload_n 3, 1) := by decide +kernel
theorem d_L_674 : decode code 674 = .ok (.invokestatic 99, 3) := by decide +kernel
theorem d_L_677 : decode code 677 = .ok (.istore 5, 2) := by decide +kernel
theorem d_L_679 : decode code 679 = .ok (.aload_n 2, 1) := by decide +kernel
theorem d_L_680 : decode code 680 = .ok (.aload_n 0, 1) := by decide +kernel
theorem d_L_681 : decode code 681 = .ok (.iload 4, 2) := by decide +kernel
theorem d_L_683 : decode code 683 = .ok (.iconst 1, 1) := by decide +kernel
theorem d_L_684 : decode code 684 = .ok (.iadd, 1) := by decide +kernel
theorem d_L_685 : decode code 685 = .ok (.iaload, 1) := by decide +kernel
theorem d_L_686 : decode code 686 = .ok (.aload_n 0, 1) := by decide +kernel
theorem d_L_687 : decode code 687 = .ok (.iload 4, 2) := by decide +kernel
theorem d_L_689 : decode code 689 = .ok (.iconst 2, 1) := by decide +kernel
theorem d_L_690 : decode code 690 = .ok (.iadd, 1) := by decide +kernel
theorem d_L_691 : decode code 691 = .ok (.iaload, 1) := by decide +kernel
theorem d_L_692 : decode code 692 = .ok (.aload_n 0, 1) := by decide +kernel
theorem d_L_693 : decode code 693 = .ok (.iload 4, 2) := by decide +kernel
theorem d_L_695 : decode code 695 = .ok (.iconst 3, 1) := by decide +kernel
theorem d_L_696 : decode code 696 = .ok (.iadd, 1) := by decide +kernel
theorem d_L_697 : decode code 697 = .ok (.iaload, 1) := by decide +kernel
theorem d_L_698 : decode code 698 = .ok (.i2l, 1) := by decide +kernel
theorem d_L_699 : decode code 699 = .ok (.bipush 32, 2) := by decide +kernel
theorem d_L_701 : decode code 701 = .ok (.lshl, 1) := by decide +kernel
theorem d_L_702 : decode code 702 = .ok (.aload_n 0, 1) := by decide +kernel
theorem d_L_703 : decode code 703 = .ok (.iload 4, 2) := by decide +kernel
theorem d_L_705 : decode code 705 = .ok (.iconst 4, 1) := by decide +kernel
theorem d_L_706 : decode code 706 = .ok (.iadd, 1) := by decide +kernel
theorem d_L_707 : decode code 707 = .ok (.iaload, 1) := by decide +kernel
theorem d_L_708 : decode code 708 = .ok (.i2l, 1) := by decide +kernel
theorem d_L_709 : decode code 709 = .ok (.ldc2_w 67, 3) := by decide +kernel
theorem d_L_712 : decode code 712 = .ok (.land, 1) := by decide +kernel
theorem d_L_713 : decode code 713 = .ok (.lor, 1) := by decide +kernel
theorem d_L_714 : decode code 714 = .ok (.aload_n 0, 1) := by decide +kernel
theorem d_L_715 : decode code 715 = .ok (.iload 4, 2) := by decide +kernel
theorem d_L_717 : decode code 717 = .ok (.iconst 5, 1) := by decide +kernel
theorem d_L_718 : decode code 718 = .ok (.iadd, 1) := by decide +kernel
theorem d_L_719 : decode code 719 = .ok (.iaload, 1) := by decide +kernel
theorem d_L_720 : decode code 720 = .ok (.i2l, 1) := by decide +kernel
theorem d_L_721 : decode code 721 = .ok (.bipush 32, 2) := by decide +kernel
theorem d_L_723 : decode code 723 = .ok (.lshl, 1) := by decide +kernel
theorem d_L_724 : decode code 724 = .ok (.aload_n 0, 1) := by decide +kernel
theorem d_L_725 : decode code 725 = .ok (.iload 4, 2) := by decide +kernel
theorem d_L_727 : decode code 727 = .ok (.bipush 6, 2) := by decide +kernel
theorem d_L_729 : decode code 729 = .ok (.iadd, 1) := by decide +kernel
theorem d_L_730 : decode code 730 = .ok (.iaload, 1) := by decide +kernel
theorem d_L_731 : decode code 731 = .ok (.i2l, 1) := by decide +kernel
theorem d_L_732 : decode code 732 = .ok (.ldc2_w 67, 3) := by decide +kernel
theorem d_L_735 : decode code 735 = .ok (.land, 1) := by decide +kernel
theorem d_L_736 : decode code 736 = .ok (.lor, 1) := by decide +kernel
theorem d_L_737 : decode code 737 = .ok (.invokevirtual 102, 3) := by decide +kernel
theorem d_L_740 : decode code 740 = .ok (.istore 6, 2) := by decide +kernel
theorem d_L_742 : decode code 742 = .ok (.aload_n 2, 1) := by decide +kernel
theorem d_L_743 : decode code 743 = .ok (.invokevirtual 75, 3) := by decide +kernel
theorem d_L_746 : decode code 746 = .ok (.iload 5, 2) := by decide +kernel
theorem d_L_748 : decode code 748 = .ok (.if_icmp .eq 5, 3) := by decide +kernel
theorem d_L_751 : decode code 751 = .ok (.iconst 0, 1) := by decide +kernel
theorem d_L_752 : decode code 752 = .ok (.ireturn, 1) := by decide +kernel
theorem d_L_753 : decode code 753 = .ok (.iload 5, 2) := by decide +kernel
theorem d_L_755 : decode code 755 = .ok (.ifCond .ne 22, 3) := by decide +kernel
theorem d_L_758 : decode code 758 = .ok (.aload_n 3, 1) := by decide +kernel
theorem d_L_759 : decode code 759 = .ok (.iconst 0, 1) := by decide +kernel
theorem d_L_760 : decode code 760 = .ok (.laload, 1) := by decide +kernel
theorem d_L_761 : decode code 761 = .ok (.iload 6, 2) := by decide +kernel
theorem d_L_763 : decode code 763 = .ok (.ifCond .eq 7, 3) := by decide +kernel
theorem d_L_766 : decode code 766 = .ok (.lconst 1, 1) := by decide +kernel
theorem d_L_767 : decode code 767 = .ok (.goto 4, 3) := by decide +kernel
theorem d_L_770 : decode code 770 = .ok (.lconst 0, 1) := by decide +kernel
theorem d_L_771 : decode code 771 = .ok (.lcmp, 1) := by decide +kernel
theorem d_L_772 : decode code 772 = .ok (.ifCond .eq 5, 3) := by decide +kernel
theorem d_L_775 : decode code 775 = .ok (.iconst 0, 1) := by decide +kernel
theorem d_L_776 : decode code 776 = .ok (.ireturn, 1) := by decide +kernel
theorem d_L_777 : decode code 777 = .ok (.goto 615, 3) := by decide +kernel
theorem d_L_780 : decode code 780 = .ok (.aload_n 1, 1) := by decide +kernel
theorem d_L_781 : decode code 781 = .ok (.aload_n 0, 1) := by decide +kernel
theorem d_L_782 : decode code 782 = .ok (.iload 4, 2) := by decide +kernel
theorem d_L_784 : decode code 784 = .ok (.iconst 1, 1) := by decide +kernel
theorem d_L_785 : decode code 785 = .ok (.iadd, 1) := by decide +kernel
theorem d_L_786 : decode code 786 = .ok (.iaload, 1) := by decide +kernel
theorem d_L_787 : decode code 787 = .ok (.aload_n 0, 1) := by decide +kernel
theorem d_L_788 : decode code 788 = .ok (.iload 4, 2) := by decide +kernel
theorem d_L_790 : decode code 790 = .ok (.iconst 2, 1) := by decide +kernel
theorem d_L_791 : decode code 791 = .ok (.iadd, 1) := by decide +kernel
theorem d_L_792 : decode code 792 = .ok (.iaload, 1) := by decide +kernel
theorem d_L_793 : decode code 793 = .ok (.aload_n 0, 1) := by decide +kernel
theorem d_L_794 : decode code 794 = .ok (.iload 4, 2) := by decide +kernel
theorem d_L_796 : decode code 796 = .ok (.iconst 3, 1) := by decide +kernel
theorem d_L_797 : decode code 797 = .ok (.iadd, 1) := by decide +kernel
theorem d_L_798 : decode code 798 = .ok (.iaload, 1) := by decide +kernel
theorem d_L_799 : decode code 799 = .ok (.aload_n 0, 1) := by decide +kernel
theorem d_L_800 : decode code 800 = .ok (.iload 4, 2) := by decide +kernel
theorem d_L_802 : decode code 802 = .ok (.iconst 4, 1) := by decide +kernel
theorem d_L_803 : decode code 803 = .ok (.iadd, 1) := by decide +kernel
theorem d_L_804 : decode code 804 = .ok (.iaload, 1) := by decide +kernel
theorem d_L_805 : decode code 805 = .ok (.aload_n 3, 1) := by decide +kernel
theorem d_L_806 : decode code 806 = .ok (.invokestatic 103, 3) := by decide +kernel
theorem d_L_809 : decode code 809 = .ok (.istore 5, 2) := by decide +kernel
theorem d_L_811 : decode code 811 = .ok (.aload_n 2, 1) := by decide +kernel
theorem d_L_812 : decode code 812 = .ok (.aload_n 0, 1) := by decide +kernel
theorem d_L_813 : decode code 813 = .ok (.iload 4, 2) := by decide +kernel
theorem d_L_815 : decode code 815 = .ok (.iconst 1, 1) := by decide +kernel
theorem d_L_816 : decode code 816 = .ok (.iadd, 1) := by decide +kernel
theorem d_L_817 : decode code 817 = .ok (.iaload, 1) := by decide +kernel
theorem d_L_818 : decode code 818 = .ok (.aload_n 0, 1) := by decide +kernel
theorem d_L_819 : decode code 819 = .ok (.iload 4, 2) := by decide +kernel
theorem d_L_821 : decode code 821 = .ok (.iconst 2, 1) := by decide +kernel
theorem d_L_822 : decode code 822 = .ok (.iadd, 1) := by decide +kernel
theorem d_L_823 : decode code 823 = .ok (.iaload, 1) := by decide +kernel
theorem d_L_824 : decode code 824 = .ok (.aload_n 0, 1) := by decide +kernel
theorem d_L_825 : decode code 825 = .ok (.iload 4, 2) := by decide +kernel
theorem d_L_827 : decode code 827 = .ok (.iconst 3, 1) := by decide +kernel
theorem d_L_828 : decode code 828 = .ok (.iadd, 1) := by decide +kernel
theorem d_L_829 : decode code 829 = .ok (.iaload, 1) := by decide +kernel
theorem d_L_830 : decode code 830 = .ok (.aload_n 0, 1) := by decide +kernel
theorem d_L_831 : decode code 831 = .ok (.iload 4, 2) := by decide +kernel
theorem d_L_833 : decode code 833 = .ok (.iconst 4, 1) := by decide +kernel
theorem d_L_834 : decode code 834 = .ok (.iadd, 1) := by decide +kernel
theorem d_L_835 : decode code 835 = .ok (.iaload, 1) := by decide +kernel
theorem d_L_836 : decode code 836 = .ok (.invokevirtual 106, 3) := by decide +kernel
theorem d_L_839 : decode code 839 = .ok (.lstore 6, 2) := by decide +kernel
theorem d_L_841 : decode code 841 = .ok (.aload_n 2, 1) := by decide +kernel
theorem d_L_842 : decode code 842 = .ok (.invokevirtual 75, 3) := by decide +kernel
theorem d_L_845 : decode code 845 = .ok (.iload 5, 2) := by decide +kernel
theorem d_L_847 : decode code 847 = .ok (.if_icmp .eq 5, 3) := by decide +kernel
theorem d_L_850 : decode code 850 = .ok (.iconst 0, 1) := by decide +kernel
theorem d_L_851 : decode code 851 = .ok (.ireturn, 1) := by decide +kernel
theorem d_L_852 : decode code 852 = .ok (.iload 5, 2) := by decide +kernel
theorem d_L_854 : decode code 854 = .ok (.ifCond .ne 14, 3) := by decide +kernel
theorem d_L_857 : decode code 857 = .ok (.aload_n 3, 1) := by decide +kernel
theorem d_L_858 : decode code 858 = .ok (.iconst 0, 1) := by decide +kernel
theorem d_L_859 : decode code 859 = .ok (.laload, 1) := by decide +kernel
theorem d_L_860 : decode code 860 = .ok (.lload 6, 2) := by decide +kernel
theorem d_L_862 : decode code 862 = .ok (.lcmp, 1) := by decide +kernel
theorem d_L_863 : decode code 863 = .ok (.ifCond .eq 5, 3) := by decide +kernel
theorem d_L_866 : decode code 866 = .ok (.iconst 0, 1) := by decide +kernel
theorem d_L_867 : decode code 867 = .ok (.ireturn, 1) := by decide +kernel
theorem d_L_868 : decode code 868 = .ok (.goto 524, 3) := by decide +kernel
theorem d_L_871 : decode code 871 = .ok (.aload_n 1, 1) := by decide +kernel
theorem d_L_872 : decode code 872 = .ok (.aload_n 0, 1) := by decide +kernel
theorem d_L_873 : decode code 873 = .ok (.iload 4, 2) := by decide +kernel
theorem d_L_875 : decode code 875 = .ok (.iconst 1, 1) := by decide +kernel
theorem d_L_876 : decode code 876 = .ok (.iadd, 1) := by decide +kernel
theorem d_L_877 : decode code 877 = .ok (.iaload, 1) := by decide +kernel
theorem d_L_878 : decode code 878 = .ok (.aload_n 0, 1) := by decide +kernel
theorem d_L_879 : decode code 879 = .ok (.iload 4, 2) := by decide +kernel
theorem d_L_881 : decode code 881 = .ok (.iconst 2, 1) := by decide +kernel
theorem d_L_882 : decode code 882 = .ok (.iadd, 1) := by decide +kernel
theorem d_L_883 : decode code 883 = .ok (.iaload, 1) := by decide +kernel
theorem d_L_884 : decode code 884 = .ok (.aload_n 0, 1) := by decide +kernel
theorem d_L_885 : decode code 885 = .ok (.iload 4, 2) := by decide +kernel
theorem d_L_887 : decode code 887 = .ok (.iconst 3, 1) := by decide +kernel
theorem d_L_888 : decode code 888 = .ok (.iadd, 1) := by decide +kernel
theorem d_L_889 : decode code 889 = .ok (.iaload, 1) := by decide +kernel
theorem d_L_890 : decode code 890 = .ok (.aload_n 3, 1) := by decide +kernel
theorem d_L_891 : decode code 891 = .ok (.invokestatic 107, 3) := by decide +kernel
theorem d_L_894 : decode code 894 = .ok (.istore 5, 2) := by decide +kernel
theorem d_L_896 : decode code 896 = .ok (.aload_n 2, 1) := by decide +kernel
theorem d_L_897 : decode code 897 = .ok (.aload_n 0, 1) := by decide +kernel
theorem d_L_898 : decode code 898 = .ok (.iload 4, 2) := by decide +kernel
theorem d_L_900 : decode code 900 = .ok (.iconst 1, 1) := by decide +kernel
theorem d_L_901 : decode code 901 = .ok (.iadd, 1) := by decide +kernel
theorem d_L_902 : decode code 902 = .ok (.iaload, 1) := by decide +kernel
theorem d_L_903 : decode code 903 = .ok (.aload_n 0, 1) := by decide +kernel
theorem d_L_904 : decode code 904 = .ok (.iload 4, 2) := by decide +kernel
theorem d_L_906 : decode code 906 = .ok (.iconst 2, 1) := by decide +kernel
theorem d_L_907 : decode code 907 = .ok (.iadd, 1) := by decide +kernel
theorem d_L_908 : decode code 908 = .ok (.iaload, 1) := by decide +kernel
theorem d_L_909 : decode code 909 = .ok (.aload_n 0, 1) := by decide +kernel
theorem d_L_910 : decode code 910 = .ok (.iload 4, 2) := by decide +kernel
theorem d_L_912 : decode code 912 = .ok (.iconst 3, 1) := by decide +kernel
theorem d_L_913 : decode code 913 = .ok (.iadd, 1) := by decide +kernel
theorem d_L_914 : decode code 914 = .ok (.iaload, 1) := by decide +kernel
theorem d_L_915 : decode code 915 = .ok (.invokevirtual 110, 3) := by decide +kernel
theorem d_L_918 : decode code 918 = .ok (.istore 6, 2) := by decide +kernel
theorem d_L_920 : decode code 920 = .ok (.aload_n 2, 1) := by decide +kernel
theorem d_L_921 : decode code 921 = .ok (.invokevirtual 75, 3) := by decide +kernel
theorem d_L_924 : decode code 924 = .ok (.iload 5, 2) := by decide +kernel
theorem d_L_926 : decode code 926 = .ok (.if_icmp .eq 5, 3) := by decide +kernel
theorem d_L_929 : decode code 929 = .ok (.iconst 0, 1) := by decide +kernel
theorem d_L_930 : decode code 930 = .ok (.ireturn, 1) := by decide +kernel
theorem d_L_931 : decode code 931 = .ok (.iload 5, 2) := by decide +kernel
theorem d_L_933 : decode code 933 = .ok (.ifCond .ne 15, 3) := by decide +kernel
theorem d_L_936 : decode code 936 = .ok (.aload_n 3, 1) := by decide +kernel
theorem d_L_937 : decode code 937 = .ok (.iconst 0, 1) := by decide +kernel
theorem d_L_938 : decode code 938 = .ok (.laload, 1) := by decide +kernel
theorem d_L_939 : decode code 939 = .ok (.iload 6, 2) := by decide +kernel
theorem d_L_941 : decode code 941 = .ok (.i2l, 1) := by decide +kernel
theorem d_L_942 : decode code 942 = .ok (.lcmp, 1) := by decide +kernel
theorem d_L_943 : decode code 943 = .ok (.ifCond .eq 5, 3) := by decide +kernel
theorem d_L_946 : decode code 946 = .ok (.iconst 0, 1) := by decide +kernel
theorem d_L_947 : decode code 947 = .ok (.ireturn, 1) := by decide +kernel
theorem d_L_948 : decode code 948 = .ok (.goto 444, 3) := by decide +kernel
theorem d_L_951 : decode code 951 = .ok (.aload_n 1, 1) := by decide +kernel
theorem d_L_952 : decode code 952 = .ok (.aload_n 0, 1) := by decide +kernel
theorem d_L_953 : decode code 953 = .ok (.iload 4, 2) := by decide +kernel
theorem d_L_955 : decode code 955 = .ok (.iconst 1, 1) := by decide +kernel
theorem d_L_956 : decode code 956 = .ok (.iadd, 1) := by decide +kernel
theorem d_L_957 : decode code 957 = .ok (.iaload, 1) := by decide +kernel
theorem d_L_958 : decode code 958 = .ok (.aload_n 3, 1) := by decide +kernel
theorem d_L_959 : decode code 959 = .ok (.invokestatic 111, 3) := by decide +kernel
theorem d_L_962 : decode code 962 = .ok (.istore 5, 2) := by decide +kernel
theorem d_L_964 : decode code 964 = .ok (.aload_n 2, 1) := by decide +kernel
theorem d_L_965 : decode code 965 = .ok (.aload_n 0, 1) := by decide +kernel
theorem d_L_966 : decode code 966 = .ok (.iload 4, 2) := by decide +kernel
theorem d_L_968 : decode code 968 = .ok (.iconst 1, 1) := by decide +kernel
theorem d_L_969 : decode code 969 = .ok (.iadd, 1) := by decide +kernel
theorem d_L_970 : decode code 970 = .ok (.iaload, 1) := by decide +kernel
theorem d_L_971 : decode code 971 = .ok (.invokevirtual 114, 3) := by decide +kernel
theorem d_L_974 : decode code 974 = .ok (.istore 6, 2) := by decide +kernel
theorem d_L_976 : decode code 976 = .ok (.aload_n 2, 1) := by decide +kernel
theorem d_L_977 : decode code 977 = .ok (.invokevirtual 75, 3) := by decide +kernel
theorem d_L_980 : decode code 980 = .ok (.iload 5, 2) := by decide +kernel
theorem d_L_982 : decode code 982 = .ok (.if_icmp .eq 5, 3) := by decide +kernel
theorem d_L_985 : decode code 985 = .ok (.iconst 0, 1) := by decide +kernel
theorem d_L_986 : decode code 986 = .ok (.ireturn, 1) := by decide +kernel
theorem d_L_987 : decode code 987 = .ok (.iload 5, 2) := by decide +kernel
theorem d_L_989 : decode code 989 = .ok (.ifCond .ne 22, 3) := by decide +kernel
theorem d_L_992 : decode code 992 = .ok (.aload_n 3, 1) := by decide +kernel
theorem d_L_993 : decode code 993 = .ok (.iconst 0, 1) := by decide +kernel
theorem d_L_994 : decode code 994 = .ok (.laload, 1) := by decide +kernel
theorem d_L_995 : decode code 995 = .ok (.iload 6, 2) := by decide +kernel
theorem d_L_997 : decode code 997 = .ok (.ifCond .eq 7, 3) := by decide +kernel
theorem d_L_1000 : decode code 1000 = .ok (.lconst 1, 1) := by decide +kernel
theorem d_L_1001 : decode code 1001 = .ok (.goto 4, 3) := by decide +kernel
theorem d_L_1004 : decode code 1004 = .ok (.lconst 0, 1) := by decide +kernel
theorem d_L_1005 : decode code 1005 = .ok (.lcmp, 1) := by decide +kernel
theorem d_L_1006 : decode code 1006 = .ok (.ifCond .eq 5, 3) := by decide +kernel
theorem d_L_1009 : decode code 1009 = .ok (.iconst 0, 1) := by decide +kernel
theorem d_L_1010 : decode code 1010 = .ok (.ireturn, 1) := by decide +kernel
theorem d_L_1011 : decode code 1011 = .ok (.goto 381, 3) := by decide +kernel
theorem d_L_1014 : decode code 1014 = .ok (.aload_n 1, 1) := by decide +kernel
theorem d_L_1015 : decode code 1015 = .ok (.invokevirtual 115, 3) := by decide +kernel
theorem d_L_1018 : decode code 1018 = .ok (.aload_n 2, 1) := by decide +kernel
theorem d_L_1019 : decode code 1019 = .ok (.invokevirtual 118, 3) := by decide +kernel
theorem d_L_1022 : decode code 1022 = .ok (.if_icmp .eq 370, 3) := by decide +kernel
theorem d_L_1025 : decode code 1025 = .ok (.iconst 0, 1) := by decide +kernel
theorem d_L_1026 : decode code 1026 = .ok (.ireturn, 1) := by decide +kernel
theorem d_L_1027 : decode code 1027 = .ok (.aload_n 1, 1) := by decide +kernel
theorem d_L_1028 : decode code 1028 = .ok (.aload_n 0, 1) := by decide +kernel
theorem d_L_1029 : decode code 1029 = .ok (.iload 4, 2) := by decide +kernel
theorem d_L_1031 : decode code 1031 = .ok (.iconst 1, 1) := by decide +kernel
theorem d_L_1032 : decode code 1032 = .ok (.iadd, 1) := by decide +kernel
theorem d_L_1033 : decode code 1033 = .ok (.iaload, 1) := by decide +kernel
theorem d_L_1034 : decode code 1034 = .ok (.aload_n 0, 1) := by decide +kernel
theorem d_L_1035 : decode code 1035 = .ok (.iload 4, 2) := by decide +kernel
theorem d_L_1037 : decode code 1037 = .ok (.iconst 2, 1) := by decide +kernel
theorem d_L_1038 : decode code 1038 = .ok (.iadd, 1) := by decide +kernel
theorem d_L_1039 : decode code 1039 = .ok (.iaload, 1) := by decide +kernel
theorem d_L_1040 : decode code 1040 = .ok (.aload_n 3, 1) := by decide +kernel
theorem d_L_1041 : decode code 1041 = .ok (.invokestatic 119, 3) := by decide +kernel
theorem d_L_1044 : decode code 1044 = .ok (.istore 5, 2) := by decide +kernel
theorem d_L_1046 : decode code 1046 = .ok (.aload_n 2, 1) := by decide +kernel
theorem d_L_1047 : decode code 1047 = .ok (.aload_n 0, 1) := by decide +kernel
theorem d_L_1048 : decode code 1048 = .ok (.iload 4, 2) := by decide +kernel
theorem d_L_1050 : decode code 1050 = .ok (.iconst 1, 1) := by decide +kernel
theorem d_L_1051 : decode code 1051 = .ok (.iadd, 1) := by decide +kernel
theorem d_L_1052 : decode code 1052 = .ok (.iaload, 1) := by decide +kernel
theorem d_L_1053 : decode code 1053 = .ok (.aload_n 0, 1) := by decide +kernel
theorem d_L_1054 : decode code 1054 = .ok (.iload 4, 2) := by decide +kernel
theorem d_L_1056 : decode code 1056 = .ok (.iconst 2, 1) := by decide +kernel
theorem d_L_1057 : decode code 1057 = .ok (.iadd, 1) := by decide +kernel
theorem d_L_1058 : decode code 1058 = .ok (.iaload, 1) := by decide +kernel
theorem d_L_1059 : decode code 1059 = .ok (.invokevirtual 122, 3) := by decide +kernel
theorem d_L_1062 : decode code 1062 = .ok (.istore 6, 2) := by decide +kernel
theorem d_L_1064 : decode code 1064 = .ok (.aload_n 2, 1) := by decide +kernel
theorem d_L_1065 : decode code 1065 = .ok (.invokevirtual 75, 3) := by decide +kernel
theorem d_L_1068 : decode code 1068 = .ok (.iload 5, 2) := by decide +kernel
theorem d_L_1070 : decode code 1070 = .ok (.if_icmp .eq 5, 3) := by decide +kernel
theorem d_L_1073 : decode code 1073 = .ok (.iconst 0, 1) := by decide +kernel
theorem d_L_1074 : decode code 1074 = .ok (.ireturn, 1) := by decide +kernel
theorem d_L_1075 : decode code 1075 = .ok (.iload 5, 2) := by decide +kernel
theorem d_L_1077 : decode code 1077 = .ok (.ifCond .ne 15, 3) := by decide +kernel
theorem d_L_1080 : decode code 1080 = .ok (.aload_n 3, 1) := by decide +kernel
theorem d_L_1081 : decode code 1081 = .ok (.iconst 0, 1) := by decide +kernel
theorem d_L_1082 : decode code 1082 = .ok (.laload, 1) := by decide +kernel
theorem d_L_1083 : decode code 1083 = .ok (.iload 6, 2) := by decide +kernel
theorem d_L_1085 : decode code 1085 = .ok (.i2l, 1) := by decide +kernel
theorem d_L_1086 : decode code 1086 = .ok (.lcmp, 1) := by decide +kernel
theorem d_L_1087 : decode code 1087 = .ok (.ifCond .eq 5, 3) := by decide +kernel
theorem d_L_1090 : decode code 1090 = .ok (.iconst 0, 1) := by decide +kernel
theorem d_L_1091 : decode code 1091 = .ok (.ireturn, 1) := by decide +kernel
theorem d_L_1092 : decode code 1092 = .ok (.goto 300, 3) := by decide +kernel
theorem d_L_1095 : decode code 1095 = .ok (.aload_n 1, 1) := by decide +kernel
theorem d_L_1096 : decode code 1096 = .ok (.aload_n 0, 1) := by decide +kernel
theorem d_L_1097 : decode code 1097 = .ok (.iload 4, 2) := by decide +kernel
theorem d_L_1099 : decode code 1099 = .ok (.iconst 1, 1) := by decide +kernel
theorem d_L_1100 : decode code 1100 = .ok (.iadd, 1) := by decide +kernel
theorem d_L_1101 : decode code 1101 = .ok (.iaload, 1) := by decide +kernel
theorem d_L_1102 : decode code 1102 = .ok (.aload_n 3, 1) := by decide +kernel
theorem d_L_1103 : decode code 1103 = .ok (.invokestatic 123, 3) := by decide +kernel
theorem d_L_1106 : decode code 1106 = .ok (.istore 5, 2) := by decide +kernel
theorem d_L_1108 : decode code 1108 = .ok (.aload_n 2, 1) := by decide +kernel
theorem d_L_1109 : decode code 1109 = .ok (.aload_n 0, 1) := by decide +kernel
theorem d_L_1110 : decode code 1110 = .ok (.iload 4, 2) := by decide +kernel
theorem d_L_1112 : decode code 1112 = .ok (.iconst 1, 1) := by decide +kernel
theorem d_L_1113 : decode code 1113 = .ok (.iadd, 1) := by decide +kernel
theorem d_L_1114 : decode code 1114 = .ok (.iaload, 1) := by decide +kernel
theorem d_L_1115 : decode code 1115 = .ok (.invokevirtual 125, 3) := by decide +kernel
theorem d_L_1118 : decode code 1118 = .ok (.istore 6, 2) := by decide +kernel
theorem d_L_1120 : decode code 1120 = .ok (.aload_n 2, 1) := by decide +kernel
theorem d_L_1121 : decode code 1121 = .ok (.invokevirtual 75, 3) := by decide +kernel
theorem d_L_1124 : decode code 1124 = .ok (.iload 5, 2) := by decide +kernel
theorem d_L_1126 : decode code 1126 = .ok (.if_icmp .eq 5, 3) := by decide +kernel
theorem d_L_1129 : decode code 1129 = .ok (.iconst 0, 1) := by decide +kernel
theorem d_L_1130 : decode code 1130 = .ok (.ireturn, 1) := by decide +kernel
theorem d_L_1131 : decode code 1131 = .ok (.iload 5, 2) := by decide +kernel
theorem d_L_1133 : decode code 1133 = .ok (.ifCond .ne 15, 3) := by decide +kernel
theorem d_L_1136 : decode code 1136 = .ok (.aload_n 3, 1) := by decide +kernel
theorem d_L_1137 : decode code 1137 = .ok (.iconst 0, 1) := by decide +kernel
theorem d_L_1138 : decode code 1138 = .ok (.laload, 1) := by decide +kernel
theorem d_L_1139 : decode code 1139 = .ok (.iload 6, 2) := by decide +kernel
theorem d_L_1141 : decode code 1141 = .ok (.i2l, 1) := by decide +kernel
theorem d_L_1142 : decode code 1142 = .ok (.lcmp, 1) := by decide +kernel
theorem d_L_1143 : decode code 1143 = .ok (.ifCond .eq 5, 3) := by decide +kernel
theorem d_L_1146 : decode code 1146 = .ok (.iconst 0, 1) := by decide +kernel
theorem d_L_1147 : decode code 1147 = .ok (.ireturn, 1) := by decide +kernel
theorem d_L_1148 : decode code 1148 = .ok (.goto 244, 3) := by decide +kernel
theorem d_L_1151 : decode code 1151 = .ok (.aload_n 1, 1) := by decide +kernel
theorem d_L_1152 : decode code 1152 = .ok (.aload_n 0, 1) := by decide +kernel
theorem d_L_1153 : decode code 1153 = .ok (.iload 4, 2) := by decide +kernel
theorem d_L_1155 : decode code 1155 = .ok (.iconst 1, 1) := by decide +kernel
theorem d_L_1156 : decode code 1156 = .ok (.iadd, 1) := by decide +kernel
theorem d_L_1157 : decode code 1157 = .ok (.iaload, 1) := by decide +kernel
theorem d_L_1158 : decode code 1158 = .ok (.invokevirtual 126, 3) := by decide +kernel
theorem d_L_1161 : decode code 1161 = .ok (.aload_n 2, 1) := by decide +kernel
theorem d_L_1162 : decode code 1162 = .ok (.aload_n 0, 1) := by decide +kernel
theorem d_L_1163 : decode code 1163 = .ok (.iload 4, 2) := by decide +kernel
theorem d_L_1165 : decode code 1165 = .ok (.iconst 1, 1) := by decide +kernel
theorem d_L_1166 : decode code 1166 = .ok (.iadd, 1) := by decide +kernel
theorem d_L_1167 : decode code 1167 = .ok (.iaload, 1) := by decide +kernel
theorem d_L_1168 : decode code 1168 = .ok (.invokevirtual 129, 3) := by decide +kernel
theorem d_L_1171 : decode code 1171 = .ok (.if_icmp .eq 221, 3) := by decide +kernel
theorem d_L_1174 : decode code 1174 = .ok (.iconst 0, 1) := by decide +kernel
theorem d_L_1175 : decode code 1175 = .ok (.ireturn, 1) := by decide +kernel
theorem d_L_1176 : decode code 1176 = .ok (.aload_n 1, 1) := by decide +kernel
theorem d_L_1177 : decode code 1177 = .ok (.invokevirtual 130, 3) := by decide +kernel
theorem d_L_1180 : decode code 1180 = .ok (.aload_n 2, 1) := by decide +kernel
theorem d_L_1181 : decode code 1181 = .ok (.invokevirtual 134, 3) := by decide +kernel
theorem d_L_1184 : decode code 1184 = .ok (.lcmp, 1) := by decide +kernel
theorem d_L_1185 : decode code 1185 = .ok (.ifCond .eq 207, 3) := by decide +kernel
theorem d_L_1188 : decode code 1188 = .ok (.iconst 0, 1) := by decide +kernel
theorem d_L_1189 : decode code 1189 = .ok (.ireturn, 1) := by decide +kernel
theorem d_L_1190 : decode code 1190 = .ok (.aload_n 1, 1) := by decide +kernel
theorem d_L_1191 : decode code 1191 = .ok (.aload_n 0, 1) := by decide +kernel
theorem d_L_1192 : decode code 1192 = .ok (.iload 4, 2) := by decide +kernel
theorem d_L_1194 : decode code 1194 = .ok (.iconst 1, 1) := by decide +kernel
theorem d_L_1195 : decode code 1195 = .ok (.iadd, 1) := by decide +kernel
theorem d_L_1196 : decode code 1196 = .ok (.iaload, 1) := by decide +kernel
theorem d_L_1197 : decode code 1197 = .ok (.aload_n 0, 1) := by decide +kernel
theorem d_L_1198 : decode code 1198 = .ok (.iload 4, 2) := by decide +kernel
theorem d_L_1200 : decode code 1200 = .ok (.iconst 2, 1) := by decide +kernel
theorem d_L_1201 : decode code 1201 = .ok (.iadd, 1) := by decide +kernel
theorem d_L_1202 : decode code 1202 = .ok (.iaload, 1) := by decide +kernel
theorem d_L_1203 : decode code 1203 = .ok (.i2l, 1) := by decide +kernel
theorem d_L_1204 : decode code 1204 = .ok (.bipush 32, 2) := by decide +kernel
theorem d_L_1206 : decode code 1206 = .ok (.lshl, 1) := by decide +kernel
theorem d_L_1207 : decode code 1207 = .ok (.aload_n 0, 1) := by decide +kernel
theorem d_L_1208 : decode code 1208 = .ok (.iload 4, 2) := by decide +kernel
theorem d_L_1210 : decode code 1210 = .ok (.iconst 3, 1) := by decide +kernel
theorem d_L_1211 : decode code 1211 = .ok (.iadd, 1) := by decide +kernel
theorem d_L_1212 : decode code 1212 = .ok (.iaload, 1) := by decide +kernel
theorem d_L_1213 : decode code 1213 = .ok (.i2l, 1) := by decide +kernel
theorem d_L_1214 : decode code 1214 = .ok (.ldc2_w 67, 3) := by decide +kernel
theorem d_L_1217 : decode code 1217 = .ok (.land, 1) := by decide +kernel
theorem d_L_1218 : decode code 1218 = .ok (.lor, 1) := by decide +kernel
theorem d_L_1219 : decode code 1219 = .ok (.aload_n 3, 1) := by decide +kernel
theorem d_L_1220 : decode code 1220 = .ok (.invokestatic 135, 3) := by decide +kernel
theorem d_L_1223 : decode code 1223 = .ok (.istore 5, 2) := by decide +kernel
theorem d_L_1225 : decode code 1225 = .ok (.aload_n 2, 1) := by decide +kernel
theorem d_L_1226 : decode code 1226 = .ok (.aload_n 0, 1) := by decide +kernel
theorem d_L_1227 : decode code 1227 = .ok (.iload 4, 2) := by decide +kernel
theorem d_L_1229 : decode code 1229 = .ok (.iconst 1, 1) := by decide +kernel
theorem d_L_1230 : decode code 1230 = .ok (.iadd, 1) := by decide +kernel
theorem d_L_1231 : decode code 1231 = .ok (.iaload, 1) := by decide +kernel
theorem d_L_1232 : decode code 1232 = .ok (.aload_n 0, 1) := by decide +kernel
theorem d_L_1233 : decode code 1233 = .ok (.iload 4, 2) := by decide +kernel
theorem d_L_1235 : decode code 1235 = .ok (.iconst 2, 1) := by decide +kernel
theorem d_L_1236 : decode code 1236 = .ok (.iadd, 1) := by decide +kernel
theorem d_L_1237 : decode code 1237 = .ok (.iaload, 1) := by decide +kernel
theorem d_L_1238 : decode code 1238 = .ok (.i2l, 1) := by decide +kernel
theorem d_L_1239 : decode code 1239 = .ok (.bipush 32, 2) := by decide +kernel
theorem d_L_1241 : decode code 1241 = .ok (.lshl, 1) := by decide +kernel
theorem d_L_1242 : decode code 1242 = .ok (.aload_n 0, 1) := by decide +kernel
theorem d_L_1243 : decode code 1243 = .ok (.iload 4, 2) := by decide +kernel
theorem d_L_1245 : decode code 1245 = .ok (.iconst 3, 1) := by decide +kernel
theorem d_L_1246 : decode code 1246 = .ok (.iadd, 1) := by decide +kernel
theorem d_L_1247 : decode code 1247 = .ok (.iaload, 1) := by decide +kernel
theorem d_L_1248 : decode code 1248 = .ok (.i2l, 1) := by decide +kernel
theorem d_L_1249 : decode code 1249 = .ok (.ldc2_w 67, 3) := by decide +kernel
theorem d_L_1252 : decode code 1252 = .ok (.land, 1) := by decide +kernel
theorem d_L_1253 : decode code 1253 = .ok (.lor, 1) := by decide +kernel
theorem d_L_1254 : decode code 1254 = .ok (.invokevirtual 138, 3) := by decide +kernel
theorem d_L_1257 : decode code 1257 = .ok (.istore 6, 2) := by decide +kernel
theorem d_L_1259 : decode code 1259 = .ok (.aload_n 2, 1) := by decide +kernel
theorem d_L_1260 : decode code 1260 = .ok (.invokevirtual 75, 3) := by decide +kernel
theorem d_L_1263 : decode code 1263 = .ok (.iload 5, 2) := by decide +kernel
theorem d_L_1265 : decode code 1265 = .ok (.if_icmp .eq 5, 3) := by decide +kernel
theorem d_L_1268 : decode code 1268 = .ok (.iconst 0, 1) := by decide +kernel
theorem d_L_1269 : decode code 1269 = .ok (.ireturn, 1) := by decide +kernel
theorem d_L_1270 : decode code 1270 = .ok (.iload 5, 2) := by decide +kernel
theorem d_L_1272 : decode code 1272 = .ok (.ifCond .ne 22, 3) := by decide +kernel
theorem d_L_1275 : decode code 1275 = .ok (.aload_n 3, 1) := by decide +kernel
theorem d_L_1276 : decode code 1276 = .ok (.iconst 0, 1) := by decide +kernel
theorem d_L_1277 : decode code 1277 = .ok (.laload, 1) := by decide +kernel
theorem d_L_1278 : decode code 1278 = .ok (.iload 6, 2) := by decide +kernel
theorem d_L_1280 : decode code 1280 = .ok (.ifCond .eq 7, 3) := by decide +kernel
theorem d_L_1283 : decode code 1283 = .ok (.lconst 1, 1) := by decide +kernel
theorem d_L_1284 : decode code 1284 = .ok (.goto 4, 3) := by decide +kernel
theorem d_L_1287 : decode code 1287 = .ok (.lconst 0, 1) := by decide +kernel
theorem d_L_1288 : decode code 1288 = .ok (.lcmp, 1) := by decide +kernel
theorem d_L_1289 : decode code 1289 = .ok (.ifCond .eq 5, 3) := by decide +kernel
theorem d_L_1292 : decode code 1292 = .ok (.iconst 0, 1) := by decide +kernel
theorem d_L_1293 : decode code 1293 = .ok (.ireturn, 1) := by decide +kernel
theorem d_L_1294 : decode code 1294 = .ok (.goto 98, 3) := by decide +kernel
theorem d_L_1297 : decode code 1297 = .ok (.aload_n 1, 1) := by decide +kernel
theorem d_L_1298 : decode code 1298 = .ok (.invokevirtual 139, 3) := by decide +kernel
theorem d_L_1301 : decode code 1301 = .ok (.aload_n 2, 1) := by decide +kernel
theorem d_L_1302 : decode code 1302 = .ok (.invokevirtual 142, 3) := by decide +kernel
theorem d_L_1305 : decode code 1305 = .ok (.lcmp, 1) := by decide +kernel
theorem d_L_1306 : decode code 1306 = .ok (.ifCond .eq 86, 3) := by decide +kernel
theorem d_L_1309 : decode code 1309 = .ok (.iconst 0, 1) := by decide +kernel
theorem d_L_1310 : decode code 1310 = .ok (.ireturn, 1) := by decide +kernel
theorem d_L_1311 : decode code 1311 = .ok (.aload_n 1, 1) := by decide +kernel
theorem d_L_1312 : decode code 1312 = .ok (.aload_n 0, 1) := by decide +kernel
theorem d_L_1313 : decode code 1313 = .ok (.iload 4, 2) := by decide +kernel
theorem d_L_1315 : decode code 1315 = .ok (.iconst 1, 1) := by decide +kernel
theorem d_L_1316 : decode code 1316 = .ok (.iadd, 1) := by decide +kernel
theorem d_L_1317 : decode code 1317 = .ok (.iaload, 1) := by decide +kernel
theorem d_L_1318 : decode code 1318 = .ok (.aload_n 3, 1) := by decide +kernel
theorem d_L_1319 : decode code 1319 = .ok (.invokestatic 143, 3) := by decide +kernel
theorem d_L_1322 : decode code 1322 = .ok (.istore 5, 2) := by decide +kernel
theorem d_L_1324 : decode code 1324 = .ok (.aload_n 2, 1) := by decide +kernel
theorem d_L_1325 : decode code 1325 = .ok (.aload_n 0, 1) := by decide +kernel
theorem d_L_1326 : decode code 1326 = .ok (.iload 4, 2) := by decide +kernel
theorem d_L_1328 : decode code 1328 = .ok (.iconst 1, 1) := by decide +kernel
theorem d_L_1329 : decode code 1329 = .ok (.iadd, 1) := by decide +kernel
theorem d_L_1330 : decode code 1330 = .ok (.iaload, 1) := by decide +kernel
theorem d_L_1331 : decode code 1331 = .ok (.invokevirtual 145, 3) := by decide +kernel
theorem d_L_1334 : decode code 1334 = .ok (.istore 6, 2) := by decide +kernel
theorem d_L_1336 : decode code 1336 = .ok (.aload_n 2, 1) := by decide +kernel
theorem d_L_1337 : decode code 1337 = .ok (.invokevirtual 75, 3) := by decide +kernel
theorem d_L_1340 : decode code 1340 = .ok (.iload 5, 2) := by decide +kernel
theorem d_L_1342 : decode code 1342 = .ok (.if_icmp .eq 5, 3) := by decide +kernel
theorem d_L_1345 : decode code 1345 = .ok (.iconst 0, 1) := by decide +kernel
theorem d_L_1346 : decode code 1346 = .ok (.ireturn, 1) := by decide +kernel
theorem d_L_1347 : decode code 1347 = .ok (.iload 5, 2) := by decide +kernel
theorem d_L_1349 : decode code 1349 = .ok (.ifCond .ne 15, 3) := by decide +kernel
theorem d_L_1352 : decode code 1352 = .ok (.aload_n 3, 1) := by decide +kernel
theorem d_L_1353 : decode code 1353 = .ok (.iconst 0, 1) := by decide +kernel
theorem d_L_1354 : decode code 1354 = .ok (.laload, 1) := by decide +kernel
theorem d_L_1355 : decode code 1355 = .ok (.iload 6, 2) := by decide +kernel
theorem d_L_1357 : decode code 1357 = .ok (.i2l, 1) := by decide +kernel
theorem d_L_1358 : decode code 1358 = .ok (.lcmp, 1) := by decide +kernel
theorem d_L_1359 : decode code 1359 = .ok (.ifCond .eq 5, 3) := by decide +kernel
theorem d_L_1362 : decode code 1362 = .ok (.iconst 0, 1) := by decide +kernel
theorem d_L_1363 : decode code 1363 = .ok (.ireturn, 1) := by decide +kernel
theorem d_L_1364 : decode code 1364 = .ok (.goto 28, 3) := by decide +kernel
theorem d_L_1367 : decode code 1367 = .ok (.aload_n 1, 1) := by decide +kernel
theorem d_L_1368 : decode code 1368 = .ok (.aload_n 0, 1) := by decide +kernel
theorem d_L_1369 : decode code 1369 = .ok (.iload 4, 2) := by decide +kernel
theorem d_L_1371 : decode code 1371 = .ok (.iconst 1, 1) := by decide +kernel
theorem d_L_1372 : decode code 1372 = .ok (.iadd, 1) := by decide +kernel
theorem d_L_1373 : decode code 1373 = .ok (.iaload, 1) := by decide +kernel
theorem d_L_1374 : decode code 1374 = .ok (.invokevirtual 146, 3) := by decide +kernel
theorem d_L_1377 : decode code 1377 = .ok (.aload_n 2, 1) := by decide +kernel
theorem d_L_1378 : decode code 1378 = .ok (.aload_n 0, 1) := by decide +kernel
theorem d_L_1379 : decode code 1379 = .ok (.iload 4, 2) := by decide +kernel
theorem d_L_1381 : decode code 1381 = .ok (.iconst 1, 1) := by decide +kernel
theorem d_L_1382 : decode code 1382 = .ok (.iadd, 1) := by decide +kernel
theorem d_L_1383 : decode code 1383 = .ok (.iaload, 1) := by decide +kernel
theorem d_L_1384 : decode code 1384 = .ok (.invokevirtual 149, 3) := by decide +kernel
theorem d_L_1387 : decode code 1387 = .ok (.if_icmp .eq 5, 3) := by decide +kernel
theorem d_L_1390 : decode code 1390 = .ok (.iconst 0, 1) := by decide +kernel
theorem d_L_1391 : decode code 1391 = .ok (.ireturn, 1) := by decide +kernel
theorem d_L_1392 : decode code 1392 = .ok (.iinc 4 8, 3) := by decide +kernel
theorem d_L_1395 : decode code 1395 = .ok (.goto (-1372), 3) := by decide +kernel
theorem d_L_1398 : decode code 1398 = .ok (.iconst 1, 1) := by decide +kernel
theorem d_L_1399 : decode code 1399 = .ok (.ireturn, 1) := by decide +kernel
