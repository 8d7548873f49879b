theorem dlaw_0 : decode code 0 = .ok (.new 8, 3) := by decide +kernel
theorem dlaw_3 : decode code 3 = .ok (.dup, 1) := by decide +kernel
theorem dlaw_4 : decode code 4 = .ok (.aload_n 0, 1) := by decide +kernel
theorem dlaw_5 : decode code 5 = .ok (.iconst 0, 1) := by decide +kernel
theorem dlaw_6 : decode code 6 = .ok (.invokestatic 90, 3) := by decide +kernel
theorem dlaw_9 : decode code 9 = .ok (.invokespecial 96, 3) := by decide +kernel
theorem dlaw_12 : decode code 12 = .ok (.astore_n 1, 1) := by decide +kernel
theorem dlaw_13 : decode code 13 = .ok (.new 98, 3) := by decide +kernel
theorem dlaw_16 : decode code 16 = .ok (.dup, 1) := by decide +kernel
theorem dlaw_17 : decode code 17 = .ok (.aload_n 0, 1) := by decide +kernel
theorem dlaw_18 : decode code 18 = .ok (.iconst 0, 1) := by decide +kernel
theorem dlaw_19 : decode code 19 = .ok (.invokestatic 90, 3) := by decide +kernel
theorem dlaw_22 : decode code 22 = .ok (.invokespecial 100, 3) := by decide +kernel
theorem dlaw_25 : decode code 25 = .ok (.astore_n 2, 1) := by decide +kernel
theorem dlaw_26 : decode code 26 = .ok (.iconst 1, 1) := by decide +kernel
theorem dlaw_27 : decode code 27 = .ok (.newarray .long, 2) := by decide +kernel
theorem dlaw_29 : decode code 29 = .ok (.astore_n 3, 1) := by decide +kernel
theorem dlaw_30 : decode code 30 = .ok (.iconst 1, 1) := by decide +kernel
theorem dlaw_31 : decode code 31 = .ok (.istore 4, 2) := by decide +kernel
theorem dlaw_33 : decode code 33 = .ok (.iload 4, 2) := by decide +kernel
theorem dlaw_35 : decode code 35 = .ok (.aload_n 0, 1) := by decide +kernel
theorem dlaw_36 : decode code 36 = .ok (.arraylength, 1) := by decide +kernel
theorem dlaw_37 : decode code 37 = .ok (.bipush 6, 2) := by decide +kernel
theorem dlaw_39 : decode code 39 = .ok (.isub, 1) := by decide +kernel
theorem dlaw_40 : decode code 40 = .ok (.if_icmp .gt 1419, 3) := by decide +kernel
theorem dlaw_43 : decode code 43 = .ok (.aload_n 0, 1) := by decide +kernel
theorem dlaw_44 : decode code 44 = .ok (.iload 4, 2) := by decide +kernel
theorem dlaw_46 : decode code 46 = .ok (.iaload, 1) := by decide +kernel
theorem dlaw_47 : decode code 47 = .ok (.bipush 31, 2) := by decide +kernel
theorem dlaw_49 : decode code 49 = .ok (.iand, 1) := by decide +kernel
theorem dlaw_50 : decode code 50 = .ok (.tableswitch 1403 0 20 #[98, 202, 250, 322, 358, 406, 419, 463, 519, 594, 669, 737, 817, 885, 965, 1037, 1109, 1160, 1228, 1284, 1340], 98) := by decide +kernel
theorem dlaw_148 : decode code 148 = .ok (.aload_n 1, 1) := by decide +kernel
theorem dlaw_149 : decode code 149 = .ok (.aload_n 0, 1) := by decide +kernel
theorem dlaw_150 : decode code 150 = .ok (.iload 4, 2) := by decide +kernel
theorem dlaw_152 : decode code 152 = .ok (.iconst 1, 1) := by decide +kernel
theorem dlaw_153 : decode code 153 = .ok (.iadd, 1) := by decide +kernel
theorem dlaw_154 : decode code 154 = .ok (.iaload, 1) := by decide +kernel
theorem dlaw_155 : decode code 155 = .ok (.aload_n 0, 1) := by decide +kernel
theorem dlaw_156 : decode code 156 = .ok (.iload 4, 2) := by decide +kernel
theorem dlaw_158 : decode code 158 = .ok (.iconst 2, 1) := by decide +kernel
theorem dlaw_159 : decode code 159 = .ok (.iadd, 1) := by decide +kernel
theorem dlaw_160 : decode code 160 = .ok (.iaload, 1) := by decide +kernel
theorem dlaw_161 : decode code 161 = .ok (.aload_n 0, 1) := by decide +kernel
theorem dlaw_162 : decode code 162 = .ok (.iload 4, 2) := by decide +kernel
theorem dlaw_164 : decode code 164 = .ok (.iconst 3, 1) := by decide +kernel
theorem dlaw_165 : decode code 165 = .ok (.iadd, 1) := by decide +kernel
theorem dlaw_166 : decode code 166 = .ok (.iaload, 1) := by decide +kernel
theorem dlaw_167 : decode code 167 = .ok (.aload_n 0, 1) := by decide +kernel
theorem dlaw_168 : decode code 168 = .ok (.iload 4, 2) := by decide +kernel
theorem dlaw_170 : decode code 170 = .ok (.iconst 4, 1) := by decide +kernel
theorem dlaw_171 : decode code 171 = .ok (.iadd, 1) := by decide +kernel
theorem dlaw_172 : decode code 172 = .ok (.iaload, 1) := by decide +kernel
theorem dlaw_173 : decode code 173 = .ok (.aload_n 0, 1) := by decide +kernel
theorem dlaw_174 : decode code 174 = .ok (.iload 4, 2) := by decide +kernel
theorem dlaw_176 : decode code 176 = .ok (.iconst 5, 1) := by decide +kernel
theorem dlaw_177 : decode code 177 = .ok (.iadd, 1) := by decide +kernel
theorem dlaw_178 : decode code 178 = .ok (.iaload, 1) := by decide +kernel
theorem dlaw_179 : decode code 179 = .ok (.aload_n 3, 1) := by decide +kernel
theorem dlaw_180 : decode code 180 = .ok (.invokestatic 101, 3) := by decide +kernel
theorem dlaw_183 : decode code 183 = .ok (.istore 5, 2) := by decide +kernel
theorem dlaw_185 : decode code 185 = .ok (.aload_n 2, 1) := by decide +kernel
theorem dlaw_186 : decode code 186 = .ok (.aload_n 0, 1) := by decide +kernel
theorem dlaw_187 : decode code 187 = .ok (.iload 4, 2) := by decide +kernel
theorem dlaw_189 : decode code 189 = .ok (.iconst 1, 1) := by decide +kernel
theorem dlaw_190 : decode code 190 = .ok (.iadd, 1) := by decide +kernel
theorem dlaw_191 : decode code 191 = .ok (.iaload, 1) := by decide +kernel
theorem dlaw_192 : decode code 192 = .ok (.aload_n 0, 1) := by decide +kernel
theorem dlaw_193 : decode code 193 = .ok (.iload 4, 2) := by decide +kernel
theorem dlaw_195 : decode code 195 = .ok (.iconst 2, 1) := by decide +kernel
theorem dlaw_196 : decode code 196 = .ok (.iadd, 1) := by decide +kernel
theorem dlaw_197 : decode code 197 = .ok (.iaload, 1) := by decide +kernel
theorem dlaw_198 : decode code 198 = .ok (.aload_n 0, 1) := by decide +kernel
theorem dlaw_199 : decode code 199 = .ok (.iload 4, 2) := by decide +kernel
theorem dlaw_201 : decode code 201 = .ok (.iconst 3, 1) := by decide +kernel
theorem dlaw_202 : decode code 202 = .ok (.iadd, 1) := by decide +kernel
theorem dlaw_203 : decode code 203 = .ok (.iaload, 1) := by decide +kernel
theorem dlaw_204 : decode code 204 = .ok (.aload_n 0, 1) := by decide +kernel
theorem dlaw_205 : decode code 205 = .ok (.iload 4, 2) := by decide +kernel
theorem dlaw_207 : decode code 207 = .ok (.iconst 4, 1) := by decide +kernel
theorem dlaw_208 : decode code 208 = .ok (.iadd, 1) := by decide +kernel
theorem dlaw_209 : decode code 209 = .ok (.iaload, 1) := by decide +kernel
theorem dlaw_210 : decode code 210 = .ok (.aload_n 0, 1) := by decide +kernel
theorem dlaw_211 : decode code 211 = .ok (.iload 4, 2) := by decide +kernel
theorem dlaw_213 : decode code 213 = .ok (.iconst 5, 1) := by decide +kernel
theorem dlaw_214 : decode code 214 = .ok (.iadd, 1) := by decide +kernel
theorem dlaw_215 : decode code 215 = .ok (.iaload, 1) := by decide +kernel
theorem dlaw_216 : decode code 216 = .ok (.invokevirtual 104, 3) := by decide +kernel
theorem dlaw_219 : decode code 219 = .ok (.istore 6, 2) := by decide +kernel
theorem dlaw_221 : decode code 221 = .ok (.aload_n 2, 1) := by decide +kernel
theorem dlaw_222 : decode code 222 = .ok (.invokevirtual 105, 3) := by decide +kernel
theorem dlaw_225 : decode code 225 = .ok (.iload 5, 2) := by decide +kernel
theorem dlaw_227 : decode code 227 = .ok (.if_icmp .eq 5, 3) := by decide +kernel
theorem dlaw_230 : decode code 230 = .ok (.iconst 0, 1) := by decide +kernel
theorem dlaw_231 : decode code 231 = .ok (.ireturn, 1) := by decide +kernel
theorem dlaw_232 : decode code 232 = .ok (.iload 5, 2) := by decide +kernel
theorem dlaw_234 : decode code 234 = .ok (.ifCond .ne 15, 3) := by decide +kernel
theorem dlaw_237 : decode code 237 = .ok (.aload_n 3, 1) := by decide +kernel
theorem dlaw_238 : decode code 238 = .ok (.iconst 0, 1) := by decide +kernel
theorem dlaw_239 : decode code 239 = .ok (.laload, 1) := by decide +kernel
theorem dlaw_240 : decode code 240 = .ok (.iload 6, 2) := by decide +kernel
theorem dlaw_242 : decode code 242 = .ok (.i2l, 1) := by decide +kernel
theorem dlaw_243 : decode code 243 = .ok (.lcmp, 1) := by decide +kernel
theorem dlaw_244 : decode code 244 = .ok (.ifCond .eq 5, 3) := by decide +kernel
theorem dlaw_247 : decode code 247 = .ok (.iconst 0, 1) := by decide +kernel
theorem dlaw_248 : decode code 248 = .ok (.ireturn, 1) := by decide +kernel
theorem dlaw_249 : decode code 249 = .ok (.goto 1204, 3) := by decide +kernel
theorem dlaw_252 : decode code 252 = .ok (.aload_n 1, 1) := by decide +kernel
theorem dlaw_253 : decode code 253 = .ok (.aload_n 0, 1) := by decide +kernel
theorem dlaw_254 : decode code 254 = .ok (.iload 4, 2) := by decide +kernel
theorem dlaw_256 : decode code 256 = .ok (.iconst 1, 1) := by decide +kernel
theorem dlaw_257 : decode code 257 = .ok (.iadd, 1) := by decide +kernel
theorem dlaw_258 : decode code 258 = .ok (.iaload, 1) := by decide +kernel
theorem dlaw_259 : decode code 259 = .ok (.aload_n 0, 1) := by decide +kernel
theorem dlaw_260 : decode code 260 = .ok (.iload 4, 2) := by decide +kernel
theorem dlaw_262 : decode code 262 = .ok (.iconst 2, 1) := by decide +kernel
theorem dlaw_263 : decode code 263 = .ok (.iadd, 1) := by decide +kernel
theorem dlaw_264 : decode code 264 = .ok (.iaload, 1) := by decide +kernel
theorem dlaw_265 : decode code 265 = .ok (.invokestatic 108, 3) := by decide +kernel
theorem dlaw_268 : decode code 268 = .ok (.istore 5, 2) := by decide +kernel
theorem dlaw_270 : decode code 270 = .ok (.aload_n 2, 1) := by decide +kernel
theorem dlaw_271 : decode code 271 = .ok (.aload_n 0, 1) := by decide +kernel
theorem dlaw_272 : decode code 272 = .ok (.iload 4, 2) := by decide +kernel
theorem dlaw_274 : decode code 274 = .ok (.iconst 1, 1) := by decide +kernel
theorem dlaw_275 : decode code 275 = .ok (.iadd, 1) := by decide +kernel
theorem dlaw_276 : decode code 276 = .ok (.iaload, 1) := by decide +kernel
theorem dlaw_277 : decode code 277 = .ok (.aload_n 0, 1) := by decide +kernel
theorem dlaw_278 : decode code 278 = .ok (.iload 4, 2) := by decide +kernel
theorem dlaw_280 : decode code 280 = .ok (.iconst 2, 1) := by decide +kernel
theorem dlaw_281 : decode code 281 = .ok (.iadd, 1) := by decide +kernel
theorem dlaw_282 : decode code 282 = .ok (.iaload, 1) := by decide +kernel
theorem dlaw_283 : decode code 283 = .ok (.invokevirtual 111, 3) := by decide +kernel
theorem dlaw_286 : decode code 286 = .ok (.aload_n 2, 1) := by decide +kernel
theorem dlaw_287 : decode code 287 = .ok (.invokevirtual 105, 3) := by decide +kernel
theorem dlaw_290 : decode code 290 = .ok (.iload 5, 2) := by decide +kernel
theorem dlaw_292 : decode code 292 = .ok (.if_icmp .eq 5, 3) := by decide +kernel
theorem dlaw_295 : decode code 295 = .ok (.iconst 0, 1) := by decide +kernel
theorem dlaw_296 : decode code 296 = .ok (.ireturn, 1) := by decide +kernel
theorem dlaw_297 : decode code 297 = .ok (.goto 1156, 3) := by decide +kernel
theorem dlaw_300 : decode code 300 = .ok (.aload_n 1, 1) := by decide +kernel
theorem dlaw_301 : decode code 301 = .ok (.aload_n 0, 1) := by decide +kernel
theorem dlaw_302 : decode code 302 = .ok (.iload 4, 2) := by decide +kernel
theorem dlaw_304 : decode code 304 = .ok (.iconst 1, 1) := by decide +kernel
theorem dlaw_305 : decode code 305 = .ok (.iadd, 1) := by decide +kernel
theorem dlaw_306 : decode code 306 = .ok (.iaload, 1) := by decide +kernel
theorem dlaw_307 : decode code 307 = .ok (.aload_n 0, 1) := by decide +kernel
theorem dlaw_308 : decode code 308 = .ok (.iload 4, 2) := by decide +kernel
theorem dlaw_310 : decode code 310 = .ok (.iconst 2, 1) := by decide +kernel
theorem dlaw_311 : decode code 311 = .ok (.iadd, 1) := by decide +kernel
theorem dlaw_312 : decode code 312 = .ok (.iaload, 1) := by decide +kernel
theorem dlaw_313 : decode code 313 = .ok (.aload_n 0, 1) := by decide +kernel
theorem dlaw_314 : decode code 314 = .ok (.iload 4, 2) := by decide +kernel
theorem dlaw_316 : decode code 316 = .ok (.iconst 3, 1) := by decide +kernel
theorem dlaw_317 : decode code 317 = .ok (.iadd, 1) := by decide +kernel
theorem dlaw_318 : decode code 318 = .ok (.iaload, 1) := by decide +kernel
theorem dlaw_319 : decode code 319 = .ok (.aload_n 0, 1) := by decide +kernel
theorem dlaw_320 : decode code 320 = .ok (.iload 4, 2) := by decide +kernel
theorem dlaw_322 : decode code 322 = .ok (.iconst 4, 1) := by decide +kernel
theorem dlaw_323 : decode code 323 = .ok (.iadd, 1) := by decide +kernel
theorem dlaw_324 : decode code 324 = .ok (.iaload, 1) := by decide +kernel
theorem dlaw_325 : decode code 325 = .ok (.invokestatic 112, 3) := by decide +kernel
theorem dlaw_328 : decode code 328 = .ok (.istore 5, 2) := by decide +kernel
theorem dlaw_330 : decode code 330 = .ok (.aload_n 2, 1) := by decide +kernel
theorem dlaw_331 : decode code 331 = .ok (.aload_n 0, 1) := by decide +kernel
theorem dlaw_332 : decode code 332 = .ok (.iload 4, 2) := by decide +kernel
theorem dlaw_334 : decode code 334 = .ok (.iconst 1, 1) := by decide +kernel
theorem dlaw_335 : decode code 335 = .ok (.iadd, 1) := by decide +kernel
theorem dlaw_336 : decode code 336 = .ok (.iaload, 1) := by decide +kernel
theorem dlaw_337 : decode code 337 = .ok (.aload_n 0, 1) := by decide +kernel
theorem dlaw_338 : decode code 338 = .ok (.iload 4, 2) := by decide +kernel
theorem dlaw_340 : decode code 340 = .ok (.iconst 2, 1) := by decide +kernel
theorem dlaw_341 : decode code 341 = .ok (.iadd, 1) := by decide +kernel
theorem dlaw_342 : decode code 342 = .ok (.iaload, 1) := by decide +kernel
theorem dlaw_343 : decode code 343 = .ok (.aload_n 0, 1) := by decide +kernel
theorem dlaw_344 : decode code 344 = .ok (.iload 4, 2) := by decide +kernel
theorem dlaw_346 : decode code 346 = .ok (.iconst 3, 1) := by decide +kernel
theorem dlaw_347 : decode code 347 = .ok (.iadd, 1) := by decide +kernel
theorem dlaw_348 : decode code 348 = .ok (.iaload, 1) := by decide +kernel
theorem dlaw_349 : decode code 349 = .ok (.aload_n 0, 1) := by decide +kernel
theorem dlaw_350 : decode code 350 = .ok (.iload 4, 2) := by decide +kernel
theorem dlaw_352 : decode code 352 = .ok (.iconst 4, 1) := by decide +kernel
theorem dlaw_353 : decode code 353 = .ok (.iadd, 1) := by decide +kernel
theorem dlaw_354 : decode code 354 = .ok (.iaload, 1) := by decide +kernel
theorem dlaw_355 : decode code 355 = .ok (.invokevirtual 115, 3) := by decide +kernel
theorem dlaw_358 : decode code 358 = .ok (.aload_n 2, 1) := by decide +kernel
theorem dlaw_359 : decode code 359 = .ok (.invokevirtual 105, 3) := by decide +kernel
theorem dlaw_362 : decode code 362 = .ok (.iload 5, 2) := by decide +kernel
theorem dlaw_364 : decode code 364 = .ok (.if_icmp .eq 5, 3) := by decide +kernel
theorem dlaw_367 : decode code 367 = .ok (.iconst 0, 1) := by decide +kernel
theorem dlaw_368 : decode code 368 = .ok (.ireturn, 1) := by decide +kernel
theorem dlaw_369 : decode code 369 = .ok (.goto 1084, 3) := by decide +kernel
theorem dlaw_372 : decode code 372 = .ok (.aload_n 1, 1) := by decide +kernel
theorem dlaw_373 : decode code 373 = .ok (.aload_n 0, 1) := by decide +kernel
theorem dlaw_374 : decode code 374 = .ok (.iload 4, 2) := by decide +kernel
theorem dlaw_376 : decode code 376 = .ok (.iconst 1, 1) := by decide +kernel
theorem dlaw_377 : decode code 377 = .ok (.iadd, 1) := by decide +kernel
theorem dlaw_378 : decode code 378 = .ok (.iaload, 1) := by decide +kernel
theorem dlaw_379 : decode code 379 = .ok (.invokestatic 116, 3) := by decide +kernel
theorem dlaw_382 : decode code 382 = .ok (.istore 5, 2) := by decide +kernel
theorem dlaw_384 : decode code 384 = .ok (.aload_n 2, 1) := by decide +kernel
theorem dlaw_385 : decode code 385 = .ok (.aload_n 0, 1) := by decide +kernel
theorem dlaw_386 : decode code 386 = .ok (.iload 4, 2) := by decide +kernel
theorem dlaw_388 : decode code 388 = .ok (.iconst 1, 1) := by decide +kernel
theorem dlaw_389 : decode code 389 = .ok (.iadd, 1) := by decide +kernel
theorem dlaw_390 : decode code 390 = .ok (.iaload, 1) := by decide +kernel
theorem dlaw_391 : decode code 391 = .ok (.invokevirtual 119, 3) := by decide +kernel
theorem dlaw_394 : decode code 394 = .ok (.aload_n 2, 1) := by decide +kernel
theorem dlaw_395 : decode code 395 = .ok (.invokevirtual 105, 3) := by decide +kernel
theorem dlaw_398 : decode code 398 = .ok (.iload 5, 2) := by decide +kernel
theorem dlaw_400 : decode code 400 = .ok (.if_icmp .eq 5, 3) := by decide +kernel
theorem dlaw_403 : decode code 403 = .ok (.iconst 0, 1) := by decide +kernel
theorem dlaw_404 : decode code 404 = .ok (.ireturn, 1) := by decide +kernel
theorem dlaw_405 : decode code 405 = .ok (.goto 1048, 3) := by decide +kernel
theorem dlaw_408 : decode code 408 = .ok (.aload_n 1, 1) := by decide +kernel
theorem dlaw_409 : decode code 409 = .ok (.aload_n 0, 1) := by decide +kernel
theorem dlaw_410 : decode code 410 = .ok (.iload 4, 2) := by decide +kernel
theorem dlaw_412 : decode code 412 = .ok (.iconst 1, 1) := by decide +kernel
theorem dlaw_413 : decode code 413 = .ok (.iadd, 1) := by decide +kernel
theorem dlaw_414 : decode code 414 = .ok (.iaload, 1) := by decide +kernel
theorem dlaw_415 : decode code 415 = .ok (.aload_n 0, 1) := by decide +kernel
theorem dlaw_416 : decode code 416 = .ok (.iload 4, 2) := by decide +kernel
theorem dlaw_418 : decode code 418 = .ok (.iconst 2, 1) := by decide +kernel
theorem dlaw_419 : decode code 419 = .ok (.iadd, 1) := by decide +kernel
theorem dlaw_420 : decode code 420 = .ok (.iaload, 1) := by decide +kernel
theorem dlaw_421 : decode code 421 = .ok (.invokestatic 120, 3) := by decide +kernel
theorem dlaw_424 : decode code 424 = .ok (.istore 5, 2) := by decide +kernel
theorem dlaw_426 : decode code 426 = .ok (.aload_n 2, 1) := by decide +kernel
theorem dlaw_427 : decode code 427 = .ok (.aload_n 0, 1) := by decide +kernel
theorem dlaw_428 : decode code 428 = .ok (.iload 4, 2) := by decide +kernel
theorem dlaw_430 : decode code 430 = .ok (.iconst 1, 1) := by decide +kernel
theorem dlaw_431 : decode code 431 = .ok (.iadd, 1) := by decide +kernel
theorem dlaw_432 : decode code 432 = .ok (.iaload, 1) := by decide +kernel
theorem dlaw_433 : decode code 433 = .ok (.aload_n 0, 1) := by decide +kernel
theorem dlaw_434 : decode code 434 = .ok (.iload 4, 2) := by decide +kernel
theorem dlaw_436 : decode code 436 = .ok (.iconst 2, 1) := by decide +kernel
theorem dlaw_437 : decode code 437 = .ok (.iadd, 1) := by decide +kernel
theorem dlaw_438 : decode code 438 = .ok (.iaload, 1) := by decide +kernel
theorem dlaw_439 : decode code 439 = .ok (.invokevirtual 122, 3) := by decide +kernel
theorem dlaw_442 : decode code 442 = .ok (.aload_n 2, 1) := by decide +kernel
theorem dlaw_443 : decode code 443 = .ok (.invokevirtual 105, 3) := by decide +kernel
theorem dlaw_446 : decode code 446 = .ok (.iload 5, 2) := by decide +kernel
theorem dlaw_448 : decode code 448 = .ok (.if_icmp .eq 5, 3) := by decide +kernel
theorem dlaw_451 : decode code 451 = .ok (.iconst 0, 1) := by decide +kernel
theorem dlaw_452 : decode code 452 = .ok (.ireturn, 1) := by decide +kernel
theorem dlaw_453 : decode code 453 = .ok (.goto 1000, 3) := by decide +kernel
theorem dlaw_456 : decode code 456 = .ok (.aload_n 1, 1) := by decide +kernel
theorem dlaw_457 : decode code 457 = .ok (.invokevirtual 123, 3) := by decide +kernel
theorem dlaw_460 : decode code 460 = .ok (.aload_n 2, 1) := by decide +kernel
theorem dlaw_461 : decode code 461 = .ok (.invokevirtual 126, 3) := by decide +kernel
theorem dlaw_464 : decode code 464 = .ok (.if_icmp .eq 989, 3) := by decide +kernel
theorem dlaw_467 : decode code 467 = .ok (.iconst 0, 1) := by decide +kernel
theorem dlaw_468 : decode code 468 = .ok (.ireturn, 1) := by decide +kernel
theorem dlaw_469 : decode code 469 = .ok (.aload_n 1, 1) := by decide +kernel
theorem dlaw_470 : decode code 470 = .ok (.aload_n 3, 1) := by decide +kernel
theorem dlaw_471 : decode code 471 = .ok (.invokestatic 127, 3) := by decide +kernel
theorem dlaw_474 : decode code 474 = .ok (.istore 5, 2) := by decide +kernel
theorem dlaw_476 : decode code 476 = .ok (.aload_n 2, 1) := by decide +kernel
theorem dlaw_477 : decode code 477 = .ok (.invokevirtual 130, 3) := by decide +kernel
theorem dlaw_480 : decode code 480 = .ok (.istore 6, 2) := by decide +kernel
theorem dlaw_482 : decode code 482 = .ok (.aload_n 2, 1) := by decide +kernel
theorem dlaw_483 : decode code 483 = .ok (.invokevirtual 105, 3) := by decide +kernel
theorem dlaw_486 : decode code 486 = .ok (.iload 5, 2) := by decide +kernel
theorem dlaw_488 : decode code 488 = .ok (.if_icmp .eq 5, 3) := by decide +kernel
theorem dlaw_491 : decode code 491 = .ok (.iconst 0, 1) := by decide +kernel
theorem dlaw_492 : decode code 492 = .ok (.ireturn, 1) := by decide +kernel
theorem dlaw_493 : decode code 493 = .ok (.iload 5, 2) := by decide +kernel
theorem dlaw_495 : decode code 495 = .ok (.ifCond .ne 15, 3) := by decide +kernel
theorem dlaw_498 : decode code 498 = .ok (.aload_n 3, 1) := by decide +kernel
theorem dlaw_499 : decode code 499 = .ok (.iconst 0, 1) := by decide +kernel
theorem dlaw_500 : decode code 500 = .ok (.laload, 1) := by decide +kernel
theorem dlaw_501 : decode code 501 = .ok (.iload 6, 2) := by decide +kernel
theorem dlaw_503 : decode code 503 = .ok (.i2l, 1) := by decide +kernel
theorem dlaw_504 : decode code 504 = .ok (.lcmp, 1) := by decide +kernel
theorem dlaw_505 : decode code 505 = .ok (.ifCond .eq 5, 3) := by decide +kernel
theorem dlaw_508 : decode code 508 = .ok (.iconst 0, 1) := by decide +kernel
theorem dlaw_509 : decode code 509 = .ok (.ireturn, 1) := by decide +kernel
theorem dlaw_510 : decode code 510 = .ok (.goto 943, 3) := by decide +kernel
theorem dlaw_513 : decode code 513 = .ok (.aload_n 1, 1) := by decide +kernel
theorem dlaw_514 : decode code 514 = .ok (.aload_n 0, 1) := by decide +kernel
theorem dlaw_515 : decode code 515 = .ok (.iload 4, 2) := by decide +kernel
theorem dlaw_517 : decode code 517 = .ok (.iconst 1, 1) := by decide +kernel
theorem dlaw_518 : decode code 518 = .ok (.iadd, 1) := by decide +kernel
theorem dlaw_519 : decode code 519 = .ok (.iaload, 1) := by decide +kernel
theorem dlaw_520 : decode code 520 = .ok (.aload_n 3, 1) := by decide +kernel
theorem dlaw_521 : decode code 521 = .ok (.invokestatic 131, 3) := by decide +kernel
theorem dlaw_524 : decode code 524 = .ok (.istore 5, 2) := by decide +kernel
theorem dlaw_526 : decode code 526 = .ok (.aload_n 2, 1) := by decide +kernel
theorem dlaw_527 : decode code 527 = .ok (.aload_n 0, 1) := by decide +kernel
theorem dlaw_528 : decode code 528 = .ok (.iload 4, 2) := by decide +kernel
theorem dlaw_530 : decode code 530 = .ok (.iconst 1, 1) := by decide +kernel
theorem dlaw_531 : decode code 531 = .ok (.iadd, 1) := by decide +kernel
theorem dlaw_532 : decode code 532 = .ok (.iaload, 1) := by decide +kernel
theorem dlaw_533 : decode code 533 = .ok (.invokevirtual 134, 3) := by decide +kernel
theorem dlaw_536 : decode code 536 = .ok (.istore 6, 2) := by decide +kernel
theorem dlaw_538 : decode code 538 = .ok (.aload_n 2, 1) := by decide +kernel
theorem dlaw_539 : decode code 539 = .ok (.invokevirtual 105, 3) := by decide +kernel
theorem dlaw_542 : decode code 542 = .ok (.iload 5, 2) := by decide +kernel
theorem dlaw_544 : decode code 544 = .ok (.if_icmp .eq 5, 3) := by decide +kernel
theorem dlaw_547 : decode code 547 = .ok (.iconst 0, 1) := by decide +kernel
theorem dlaw_548 : decode code 548 = .ok (.ireturn, 1) := by decide +kernel
theorem dlaw_549 : decode code 549 = .ok (.iload 5, 2) := by decide +kernel
theorem dlaw_551 : decode code 551 = .ok (.ifCond .ne 15, 3) := by decide +kernel
theorem dlaw_554 : decode code 554 = .ok (.aload_n 3, 1) := by decide +kernel
theorem dlaw_555 : decode code 555 = .ok (.iconst 0, 1) := by decide +kernel
theorem dlaw_556 : decode code 556 = .ok (.laload, 1) := by decide +kernel
theorem dlaw_557 : decode code 557 = .ok (.iload 6, 2) := by decide +kernel
theorem dlaw_559 : decode code 559 = .ok (.i2l, 1) := by decide +kernel
theorem dlaw_560 : decode code 560 = .ok (.lcmp, 1) := by decide +kernel
theorem dlaw_561 : decode code 561 = .ok (.ifCond .eq 5, 3) := by decide +kernel
theorem dlaw_564 : decode code 564 = .ok (.iconst 0, 1) := by decide +kernel
theorem dlaw_565 : decode code 565 = .ok (.ireturn, 1) := by decide +kernel
theorem dlaw_566 : decode code 566 = .ok (.goto 887, 3) := by decide +kernel
theorem dlaw_569 : decode code 569 = .ok (.aload_n 1, 1) := by decide +kernel
theorem dlaw_570 : decode code 570 = .ok (.aload_n 0, 1) := by decide +kernel
theorem dlaw_571 : decode code 571 = .ok (.iload 4, 2) := by decide +kernel
theorem dlaw_573 : decode code 573 = .ok (.iconst 1, 1) := by decide +kernel
theorem dlaw_574 : decode code 574 = .ok (.iadd, 1) := by decide +kernel
theorem dlaw_575 : decode code 575 = .ok (.iaload, 1) := by decide +kernel
theorem dlaw_576 : decode code 576 = .ok (.aload_n 0, 1) := by decide +kernel
theorem dlaw_577 : decode code 577 = .ok (.iload 4, 2) := by decide +kernel
theorem dlaw_579 : decode code 579 = .ok (.iconst 2, 1) := by decide +kernel
theorem dlaw_580 : decode code 580 = .ok (.iadd, 1) := by decide +kernel
theorem dlaw_581 : decode code 581 = .ok (.iaload, 1) := by decide +kernel
theorem dlaw_582 : decode code 582 = .ok (.aload_n 3, 1) := by decide +kernel
theorem dlaw_583 : decode code 583 = .ok (.invokestatic 135, 3) := by decide +kernel
theorem dlaw_586 : decode code 586 = .ok (.istore 5, 2) := by decide +kernel
theorem dlaw_588 : decode code 588 = .ok (.aload_n 2, 1) := by decide +kernel
theorem dlaw_589 : decode code 589 = .ok (.aload_n 0, 1) := by decide +kernel
theorem dlaw_590 : decode code 590 = .ok (.iload 4, 2) := by decide +kernel
theorem dlaw_592 : decode code 592 = .ok (.iconst 1, 1) := by decide +kernel
theorem dlaw_593 : decode code 593 = .ok (.iadd, 1) := by decide +kernel
theorem dlaw_594 : decode code 594 = .ok (.iaload, 1) := by decide +kernel
theorem dlaw_595 : decode code 595 = .ok (.aload_n 0, 1) := by decide +kernel
theorem dlaw_596 : decode code 596 = .ok (.iload 4, 2) := by decide +kernel
theorem dlaw_598 : decode code 598 = .ok (.iconst 2, 1) := by decide +kernel
theorem dlaw_599 : decode code 599 = .ok (.iadd, 1) := by decide +kernel
theorem dlaw_600 : decode code 600 = .ok (.iaload, 1) := by decide +kernel
theorem dlaw_601 : decode code 601 = .ok (.invokevirtual 138, 3) := by decide +kernel
theorem dlaw_604 : decode code 604 = .ok (.istore 6, 2) := by decide +kernel
theorem dlaw_606 : decode code 606 = .ok (.aload_n 2, 1) := by decide +kernel
theorem dlaw_607 : decode code 607 = .ok (.invokevirtual 105, 3) := by decide +kernel
theorem dlaw_610 : decode code 610 = .ok (.iload 5, 2) := by decide +kernel
theorem dlaw_612 : decode code 612 = .ok (.if_icmp .eq 5, 3) := by decide +kernel
theorem dlaw_615 : decode code 615 = .ok (.iconst 0, 1) := by decide +kernel
theorem dlaw_616 : decode code 616 = .ok (.ireturn, 1) := by decide +kernel
theorem dlaw_617 : decode code 617 = .ok (.iload 5, 2) := by decide +kernel
theorem dlaw_619 : decode code 619 = .ok (.ifCond .ne 22, 3) := by decide +kernel
theorem dlaw_622 : decode code 622 = .ok (.aload_n 3, 1) := by decide +kernel
theorem dlaw_623 : decode code 623 = .ok (.iconst 0, 1) := by decide +kernel
theorem dlaw_624 : decode code 624 = .ok (.laload, 1) := by decide +kernel
theorem dlaw_625 : decode code 625 = .ok (.iload 6, 2) := by decide +kernel
theorem dlaw_627 : decode code 627 = .ok (.ifCond .eq 7, 3) := by decide +kernel
theorem dlaw_630 : decode code 630 = .ok (.lconst 1, 1) := by decide +kernel
theorem dlaw_631 : decode code 631 = .ok (.goto 4, 3) := by decide +kernel
theorem dlaw_634 : decode code 634 = .ok (.lconst 0, 1) := by decide +kernel
theorem dlaw_635 : decode code 635 = .ok (.lcmp, 1) := by decide +kernel
theorem dlaw_636 : decode code 636 = .ok (.ifCond .eq 5, 3) := by decide +kernel
theorem dlaw_639 : decode code 639 = .ok (.iconst 0, 1) := by decide +kernel
theorem dlaw_640 : decode code 640 = .ok (.ireturn, 1) := by decide +kernel
theorem dlaw_641 : decode code 641 = .ok (.goto 812, 3) := by decide +kernel
theorem dlaw_644 : decode code 644 = .ok (.aload_n 1, 1) := by decide +kernel
theorem dlaw_645 : decode code 645 = .ok (.aload_n 0, 1) := by decide +kernel
theorem dlaw_646 : decode code 646 = .ok (.iload 4, 2) := by decide +kernel
theorem dlaw_648 : decode code 648 = .ok (.iconst 1, 1) := by decide +kernel
theorem dlaw_649 : decode code 649 = .ok (.iadd, 1) := by decide +kernel
theorem dlaw_650 : decode code 650 = .ok (.iaload, 1) := by decide +kernel
theorem dlaw_651 : decode code 651 = .ok (.aload_n 0, 1) := by decide +kernel
theorem dlaw_652 : decode code 652 = .ok (.iload 4, 2) := by decide +kernel
theorem dlaw_654 : decode code 654 = .ok (.iconst 2, 1) := by decide +kernel
theorem dlaw_655 : decode code 655 = .ok (.iadd, 1) := by decide +kernel
theorem dlaw_656 : decode code 656 = .ok (.iaload, 1) := by decide +kernel
theorem dlaw_657 : decode code 657 = .ok (.aload_n 3, 1) := by decide +kernel
theorem dlaw_658 : decode code 658 = .ok (.invokestatic 139, 3) := by decide +kernel
theorem dlaw_661 : decode code 661 = .ok (.istore 5, 2) := by decide +kernel
theorem dlaw_663 : decode code 663 = .ok (.aload_n 2, 1) := by decide +kernel
theorem dlaw_664 : decode code 664 = .ok (.aload_n 0, 1) := by decide +kernel
theorem dlaw_665 : decode code 665 = .ok (.iload 4, 2) := by decide +kernel
theorem dlaw_667 : decode code 667 = .ok (.iconst 1, 1) := by decide +kernel
theorem dlaw_668 : decode code 668 = .ok (.iadd, 1) := by decide +kernel
theorem dlaw_669 : decode code 669 = .ok (.iaload, 1) := by decide +kernel
theorem dlaw_670 : decode code 670 = .ok (.aload_n 0, 1) := by decide +kernel
theorem dlaw_671 : decode code 671 = .ok (.iload 4, 2) := by decide +kernel
theorem dlaw_673 : decode code 673 = .ok (.iconst 2, 1) := by decide +kernel
theorem dlaw_674 : decode code 674 = .ok (.iadd, 1) := by decide +kernel
theorem dlaw_675 : decode code 675 = .ok (.iaload, 1) := by decide +kernel
theorem dlaw_676 : decode code 676 = .ok (.invokevirtual 141, 3) := by decide +kernel
theorem dlaw_679 : decode code 679 = .ok (.istore 6, 2) := by decide +kernel
theorem dlaw_681 : decode code 681 = .ok (.aload_n 2, 1) := by decide +kernel
theorem dlaw_682 : decode code 682 = .ok (.invokevirtual 105, 3) := by decide +kernel
theorem dlaw_685 : decode code 685 = .ok (.iload 5, 2) := by decide +kernel
theorem dlaw_687 : decode code 687 = .ok (.if_icmp .eq 5, 3) := by decide +kernel
theorem dlaw_690 : decode code 690 = .ok (.iconst 0, 1) := by decide +kernel
theorem dlaw_691 : decode code 691 = .ok (.ireturn, 1) := by decide +kernel
theorem dlaw_692 : decode code 692 = .ok (.iload 5, 2) := by decide +kernel
theorem dlaw_694 : decode code 694 = .ok (.ifCond .ne 22, 3) := by decide +kernel
theorem dlaw_697 : decode code 697 = .ok (.aload_n 3, 1) := by decide +kernel
theorem dlaw_698 : decode code 698 = .ok (.iconst 0, 1) := by decide +kernel
theorem dlaw_699 : decode code 699 = .ok (.laload, 1) := by decide +kernel
theorem dlaw_700 : decode code 700 = .ok (.iload 6, 2) := by decide +kernel
theorem dlaw_702 : decode code 702 = .ok (.ifCond .eq 7, 3) := by decide +kernel
theorem dlaw_705 : decode code 705 = .ok (.lconst 1, 1) := by decide +kernel
theorem dlaw_706 : decode code 706 = .ok (.goto 4, 3) := by decide +kernel
theorem dlaw_709 : decode code 709 = .ok (.lconst 0, 1) := by decide +kernel
theorem dlaw_710 : decode code 710 = .ok (.lcmp, 1) := by decide +kernel
theorem dlaw_711 : decode code 711 = .ok (.ifCond .eq 5, 3) := by decide +kernel
theorem dlaw_714 : decode code 714 = .ok (.iconst 0, 1) := by decide +kernel
theorem dlaw_715 : decode code 715 = .ok (.ireturn, 1) := by decide +kernel
theorem dlaw_716 : decode code 716 = .ok (.goto 737, 3) := by decide +kernel
theorem dlaw_719 : decode code 719 = .ok (.aload_n 1, 1) := by decide +kernel
theorem dlaw_720 : decode code 720 = .ok (.aload_n 0, 1) := by decide +kernel
theorem dlaw_721 : decode code 721 = .ok (.iload 4, 2) := by decide +kernel
theorem dlaw_723 : decode code 723 = .ok (.iconst 1, 1) := by decide +kernel
theorem dlaw_724 : decode code 724 = .ok (.iadd, 1) := by decide +kernel
theorem dlaw_725 : decode code 725 = .ok (.iaload, 1) := by decide +kernel
theorem dlaw_726 : decode code 726 = .ok (.aload_n 0, 1) := by decide +kernel
theorem dlaw_727 : decode code 727 = .ok (.iload 4, 2) := by decide +kernel
theorem dlaw_729 : decode code 729 = .ok (.iconst 2, 1) := by decide +kernel
theorem dlaw_730 : decode code 730 = .ok (.iadd, 1) := by decide +kernel
theorem dlaw_731 : decode code 731 = .ok (.iaload, 1) := by decide +kernel
theorem dlaw_732 : decode code 732 = .ok (.aload_n 3, 1) := by decide +kernel
theorem dlaw_733 : decode code 733 = .ok (.invokestatic 142, 3) := by decide +kernel
theorem dlaw_736 : decode code 736 = .ok (.istore 5, 2) := by decide +kernel
theorem dlaw_738 : decode code 738 = .ok (.aload_n 2, 1) := by decide +kernel
theorem dlaw_739 : decode code 739 = .ok (.aload_n 0, 1) := by decide +kernel
theorem dlaw_740 : decode code 740 = .ok (.iload 4, 2) := by decide +kernel
theorem dlaw_742 : decode code 742 = .ok (.iconst 1, 1) := by decide +kernel
theorem dlaw_743 : decode code 743 = .ok (.iadd, 1) := by decide +kernel
theorem dlaw_744 : decode code 744 = .ok (.iaload, 1) := by decide +kernel
theorem dlaw_745 : decode code 745 = .ok (.aload_n 0, 1) := by decide +kernel
theorem dlaw_746 : decode code 746 = .ok (.iload 4, 2) := by decide +kernel
theorem dlaw_748 : decode code 748 = .ok (.iconst 2, 1) := by decide +kernel
theorem dlaw_749 : decode code 749 = .ok (.iadd, 1) := by decide +kernel
theorem dlaw_750 : decode code 750 = .ok (.iaload, 1) := by decide +kernel
theorem dlaw_751 : decode code 751 = .ok (.invokevirtual 144, 3) := by decide +kernel
theorem dlaw_754 : decode code 754 = .ok (.istore 6, 2) := by decide +kernel
theorem dlaw_756 : decode code 756 = .ok (.aload_n 2, 1) := by decide +kernel
theorem dlaw_757 : decode code 757 = .ok (.invokevirtual 105, 3) := by decide +kernel
theorem dlaw_760 : decode code 760 = .ok (.iload 5, 2) := by decide +kernel
theorem dlaw_762 : decode code 762 = .ok (.if_icmp .eq 5, 3) := by decide +kernel
theorem dlaw_765 : decode code 765 = .ok (.iconst 0, 1) := by decide +kernel
theorem dlaw_766 : decode code 766 = .ok (.ireturn, 1) := by decide +kernel
theorem dlaw_767 : decode code 767 = .ok (.iload 5, 2) := by decide +kernel
theorem dlaw_769 : decode code 769 = .ok (.ifCond .ne 15, 3) := by decide +kernel
theorem dlaw_772 : decode code 772 = .ok (.aload_n 3, 1) := by decide +kernel
theorem dlaw_773 : decode code 773 = .ok (.iconst 0, 1) := by decide +kernel
theorem dlaw_774 : decode code 774 = .ok (.laload, 1) := by decide +kernel
theorem dlaw_775 : decode code 775 = .ok (.iload 6, 2) := by decide +kernel
theorem dlaw_777 : decode code 777 = .ok (.i2l, 1) := by decide +kernel
theorem dlaw_778 : decode code 778 = .ok (.lcmp, 1) := by decide +kernel
