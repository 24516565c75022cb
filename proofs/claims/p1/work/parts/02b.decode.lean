theorem dL_law_0 : decode cL_law 0 = .ok (.new 7, 3) := by decide +kernel
theorem dL_law_3 : decode cL_law 3 = .ok (.dup, 1) := by decide +kernel
theorem dL_law_4 : decode cL_law 4 = .ok (.invokespecial 9, 3) := by decide +kernel
theorem dL_law_7 : decode cL_law 7 = .ok (.astore_n 1, 1) := by decide +kernel
theorem dL_law_8 : decode cL_law 8 = .ok (.new 10, 3) := by decide +kernel
theorem dL_law_11 : decode cL_law 11 = .ok (.dup, 1) := by decide +kernel
theorem dL_law_12 : decode cL_law 12 = .ok (.invokespecial 12, 3) := by decide +kernel
theorem dL_law_15 : decode cL_law 15 = .ok (.astore_n 2, 1) := by decide +kernel
theorem dL_law_16 : decode cL_law 16 = .ok (.iconst 0, 1) := by decide +kernel
theorem dL_law_17 : decode cL_law 17 = .ok (.istore_n 3, 1) := by decide +kernel
theorem dL_law_18 : decode cL_law 18 = .ok (.iload_n 3, 1) := by decide +kernel
theorem dL_law_19 : decode cL_law 19 = .ok (.aload_n 0, 1) := by decide +kernel
theorem dL_law_20 : decode cL_law 20 = .ok (.arraylength, 1) := by decide +kernel
theorem dL_law_21 : decode cL_law 21 = .ok (.bipush 6, 2) := by decide +kernel
theorem dL_law_23 : decode cL_law 23 = .ok (.isub, 1) := by decide +kernel
theorem dL_law_24 : decode cL_law 24 = .ok (.if_icmp .gt 1161, 3) := by decide +kernel
theorem dL_law_27 : decode cL_law 27 = .ok (.aload_n 0, 1) := by decide +kernel
theorem dL_law_28 : decode cL_law 28 = .ok (.iload_n 3, 1) := by decide +kernel
theorem dL_law_29 : decode cL_law 29 = .ok (.iaload, 1) := by decide +kernel
theorem dL_law_30 : decode cL_law 30 = .ok (.bipush 31, 2) := by decide +kernel
theorem dL_law_32 : decode cL_law 32 = .ok (.iand, 1) := by decide +kernel
theorem dL_law_33 : decode cL_law 33 = .ok (.tableswitch 1146 0 31 #[143, 206, 229, 268, 281, 294, 307, 340, 363, 386, 399, 482, 505, 548, 611, 624, 657, 690, 723, 756, 779, 822, 835, 868, 911, 945, 968, 991, 1024, 1057, 1090, 1123], 143) := by decide +kernel
theorem dL_law_176 : decode cL_law 176 = .ok (.aload_n 1, 1) := by decide +kernel
theorem dL_law_177 : decode cL_law 177 = .ok (.aload_n 0, 1) := by decide +kernel
theorem dL_law_178 : decode cL_law 178 = .ok (.iload_n 3, 1) := by decide +kernel
theorem dL_law_179 : decode cL_law 179 = .ok (.iconst 1, 1) := by decide +kernel
theorem dL_law_180 : decode cL_law 180 = .ok (.iadd, 1) := by decide +kernel
theorem dL_law_181 : decode cL_law 181 = .ok (.iaload, 1) := by decide +kernel
theorem dL_law_182 : decode cL_law 182 = .ok (.aload_n 0, 1) := by decide +kernel
theorem dL_law_183 : decode cL_law 183 = .ok (.iload_n 3, 1) := by decide +kernel
theorem dL_law_184 : decode cL_law 184 = .ok (.iconst 2, 1) := by decide +kernel
theorem dL_law_185 : decode cL_law 185 = .ok (.iadd, 1) := by decide +kernel
theorem dL_law_186 : decode cL_law 186 = .ok (.iaload, 1) := by decide +kernel
theorem dL_law_187 : decode cL_law 187 = .ok (.aload_n 0, 1) := by decide +kernel
theorem dL_law_188 : decode cL_law 188 = .ok (.iload_n 3, 1) := by decide +kernel
theorem dL_law_189 : decode cL_law 189 = .ok (.iconst 3, 1) := by decide +kernel
theorem dL_law_190 : decode cL_law 190 = .ok (.iadd, 1) := by decide +kernel
theorem dL_law_191 : decode cL_law 191 = .ok (.iaload, 1) := by decide +kernel
theorem dL_law_192 : decode cL_law 192 = .ok (.aload_n 0, 1) := by decide +kernel
theorem dL_law_193 : decode cL_law 193 = .ok (.iload_n 3, 1) := by decide +kernel
theorem dL_law_194 : decode cL_law 194 = .ok (.iconst 4, 1) := by decide +kernel
theorem dL_law_195 : decode cL_law 195 = .ok (.iadd, 1) := by decide +kernel
theorem dL_law_196 : decode cL_law 196 = .ok (.iaload, 1) := by decide +kernel
theorem dL_law_197 : decode cL_law 197 = .ok (.aload_n 0, 1) := by decide +kernel
theorem dL_law_198 : decode cL_law 198 = .ok (.iload_n 3, 1) := by decide +kernel
theorem dL_law_199 : decode cL_law 199 = .ok (.iconst 5, 1) := by decide +kernel
theorem dL_law_200 : decode cL_law 200 = .ok (.iadd, 1) := by decide +kernel
theorem dL_law_201 : decode cL_law 201 = .ok (.iaload, 1) := by decide +kernel
theorem dL_law_202 : decode cL_law 202 = .ok (.invokevirtual 13, 3) := by decide +kernel
theorem dL_law_205 : decode cL_law 205 = .ok (.aload_n 2, 1) := by decide +kernel
theorem dL_law_206 : decode cL_law 206 = .ok (.aload_n 0, 1) := by decide +kernel
theorem dL_law_207 : decode cL_law 207 = .ok (.iload_n 3, 1) := by decide +kernel
theorem dL_law_208 : decode cL_law 208 = .ok (.iconst 1, 1) := by decide +kernel
theorem dL_law_209 : decode cL_law 209 = .ok (.iadd, 1) := by decide +kernel
theorem dL_law_210 : decode cL_law 210 = .ok (.iaload, 1) := by decide +kernel
theorem dL_law_211 : decode cL_law 211 = .ok (.aload_n 0, 1) := by decide +kernel
theorem dL_law_212 : decode cL_law 212 = .ok (.iload_n 3, 1) := by decide +kernel
theorem dL_law_213 : decode cL_law 213 = .ok (.iconst 2, 1) := by decide +kernel
theorem dL_law_214 : decode cL_law 214 = .ok (.iadd, 1) := by decide +kernel
theorem dL_law_215 : decode cL_law 215 = .ok (.iaload, 1) := by decide +kernel
theorem dL_law_216 : decode cL_law 216 = .ok (.aload_n 0, 1) := by decide +kernel
theorem dL_law_217 : decode cL_law 217 = .ok (.iload_n 3, 1) := by decide +kernel
theorem dL_law_218 : decode cL_law 218 = .ok (.iconst 3, 1) := by decide +kernel
theorem dL_law_219 : decode cL_law 219 = .ok (.iadd, 1) := by decide +kernel
theorem dL_law_220 : decode cL_law 220 = .ok (.iaload, 1) := by decide +kernel
theorem dL_law_221 : decode cL_law 221 = .ok (.aload_n 0, 1) := by decide +kernel
theorem dL_law_222 : decode cL_law 222 = .ok (.iload_n 3, 1) := by decide +kernel
theorem dL_law_223 : decode cL_law 223 = .ok (.iconst 4, 1) := by decide +kernel
theorem dL_law_224 : decode cL_law 224 = .ok (.iadd, 1) := by decide +kernel
theorem dL_law_225 : decode cL_law 225 = .ok (.iaload, 1) := by decide +kernel
theorem dL_law_226 : decode cL_law 226 = .ok (.aload_n 0, 1) := by decide +kernel
theorem dL_law_227 : decode cL_law 227 = .ok (.iload_n 3, 1) := by decide +kernel
theorem dL_law_228 : decode cL_law 228 = .ok (.iconst 5, 1) := by decide +kernel
theorem dL_law_229 : decode cL_law 229 = .ok (.iadd, 1) := by decide +kernel
theorem dL_law_230 : decode cL_law 230 = .ok (.iaload, 1) := by decide +kernel
theorem dL_law_231 : decode cL_law 231 = .ok (.invokevirtual 17, 3) := by decide +kernel
theorem dL_law_234 : decode cL_law 234 = .ok (.if_icmp .eq 945, 3) := by decide +kernel
theorem dL_law_239 : decode cL_law 239 = .ok (.aload_n 1, 1) := by decide +kernel
theorem dL_law_240 : decode cL_law 240 = .ok (.aload_n 0, 1) := by decide +kernel
theorem dL_law_241 : decode cL_law 241 = .ok (.iload_n 3, 1) := by decide +kernel
theorem dL_law_242 : decode cL_law 242 = .ok (.iconst 1, 1) := by decide +kernel
theorem dL_law_243 : decode cL_law 243 = .ok (.iadd, 1) := by decide +kernel
theorem dL_law_244 : decode cL_law 244 = .ok (.iaload, 1) := by decide +kernel
theorem dL_law_245 : decode cL_law 245 = .ok (.invokevirtual 18, 3) := by decide +kernel
theorem dL_law_248 : decode cL_law 248 = .ok (.aload_n 2, 1) := by decide +kernel
theorem dL_law_249 : decode cL_law 249 = .ok (.aload_n 0, 1) := by decide +kernel
theorem dL_law_250 : decode cL_law 250 = .ok (.iload_n 3, 1) := by decide +kernel
theorem dL_law_251 : decode cL_law 251 = .ok (.iconst 1, 1) := by decide +kernel
theorem dL_law_252 : decode cL_law 252 = .ok (.iadd, 1) := by decide +kernel
theorem dL_law_253 : decode cL_law 253 = .ok (.iaload, 1) := by decide +kernel
theorem dL_law_254 : decode cL_law 254 = .ok (.invokevirtual 22, 3) := by decide +kernel
theorem dL_law_257 : decode cL_law 257 = .ok (.if_icmp .eq 922, 3) := by decide +kernel
theorem dL_law_262 : decode cL_law 262 = .ok (.aload_n 1, 1) := by decide +kernel
theorem dL_law_263 : decode cL_law 263 = .ok (.aload_n 0, 1) := by decide +kernel
theorem dL_law_264 : decode cL_law 264 = .ok (.iload_n 3, 1) := by decide +kernel
theorem dL_law_265 : decode cL_law 265 = .ok (.iconst 1, 1) := by decide +kernel
theorem dL_law_266 : decode cL_law 266 = .ok (.iadd, 1) := by decide +kernel
theorem dL_law_267 : decode cL_law 267 = .ok (.iaload, 1) := by decide +kernel
theorem dL_law_268 : decode cL_law 268 = .ok (.ifCond .eq 7, 3) := by decide +kernel
theorem dL_law_271 : decode cL_law 271 = .ok (.iconst 1, 1) := by decide +kernel
theorem dL_law_272 : decode cL_law 272 = .ok (.goto 4, 3) := by decide +kernel
theorem dL_law_275 : decode cL_law 275 = .ok (.iconst 0, 1) := by decide +kernel
theorem dL_law_276 : decode cL_law 276 = .ok (.invokevirtual 23, 3) := by decide +kernel
theorem dL_law_279 : decode cL_law 279 = .ok (.aload_n 2, 1) := by decide +kernel
theorem dL_law_280 : decode cL_law 280 = .ok (.aload_n 0, 1) := by decide +kernel
theorem dL_law_281 : decode cL_law 281 = .ok (.iload_n 3, 1) := by decide +kernel
theorem dL_law_282 : decode cL_law 282 = .ok (.iconst 1, 1) := by decide +kernel
theorem dL_law_283 : decode cL_law 283 = .ok (.iadd, 1) := by decide +kernel
theorem dL_law_284 : decode cL_law 284 = .ok (.iaload, 1) := by decide +kernel
theorem dL_law_285 : decode cL_law 285 = .ok (.ifCond .eq 7, 3) := by decide +kernel
theorem dL_law_288 : decode cL_law 288 = .ok (.iconst 1, 1) := by decide +kernel
theorem dL_law_289 : decode cL_law 289 = .ok (.goto 4, 3) := by decide +kernel
theorem dL_law_292 : decode cL_law 292 = .ok (.iconst 0, 1) := by decide +kernel
theorem dL_law_293 : decode cL_law 293 = .ok (.invokevirtual 27, 3) := by decide +kernel
theorem dL_law_296 : decode cL_law 296 = .ok (.if_icmp .eq 883, 3) := by decide +kernel
theorem dL_law_301 : decode cL_law 301 = .ok (.aload_n 1, 1) := by decide +kernel
theorem dL_law_302 : decode cL_law 302 = .ok (.invokevirtual 28, 3) := by decide +kernel
theorem dL_law_305 : decode cL_law 305 = .ok (.aload_n 2, 1) := by decide +kernel
theorem dL_law_306 : decode cL_law 306 = .ok (.invokevirtual 32, 3) := by decide +kernel
theorem dL_law_309 : decode cL_law 309 = .ok (.if_icmp .eq 870, 3) := by decide +kernel
theorem dL_law_314 : decode cL_law 314 = .ok (.aload_n 1, 1) := by decide +kernel
theorem dL_law_315 : decode cL_law 315 = .ok (.invokevirtual 33, 3) := by decide +kernel
theorem dL_law_318 : decode cL_law 318 = .ok (.aload_n 2, 1) := by decide +kernel
theorem dL_law_319 : decode cL_law 319 = .ok (.invokevirtual 36, 3) := by decide +kernel
theorem dL_law_322 : decode cL_law 322 = .ok (.if_icmp .eq 857, 3) := by decide +kernel
theorem dL_law_327 : decode cL_law 327 = .ok (.aload_n 1, 1) := by decide +kernel
theorem dL_law_328 : decode cL_law 328 = .ok (.invokevirtual 37, 3) := by decide +kernel
theorem dL_law_331 : decode cL_law 331 = .ok (.aload_n 2, 1) := by decide +kernel
theorem dL_law_332 : decode cL_law 332 = .ok (.invokevirtual 40, 3) := by decide +kernel
theorem dL_law_335 : decode cL_law 335 = .ok (.if_icmp .eq 844, 3) := by decide +kernel
theorem dL_law_340 : decode cL_law 340 = .ok (.aload_n 1, 1) := by decide +kernel
theorem dL_law_341 : decode cL_law 341 = .ok (.aload_n 0, 1) := by decide +kernel
theorem dL_law_342 : decode cL_law 342 = .ok (.iload_n 3, 1) := by decide +kernel
theorem dL_law_343 : decode cL_law 343 = .ok (.iconst 1, 1) := by decide +kernel
theorem dL_law_344 : decode cL_law 344 = .ok (.iadd, 1) := by decide +kernel
theorem dL_law_345 : decode cL_law 345 = .ok (.iaload, 1) := by decide +kernel
theorem dL_law_346 : decode cL_law 346 = .ok (.aload_n 0, 1) := by decide +kernel
theorem dL_law_347 : decode cL_law 347 = .ok (.iload_n 3, 1) := by decide +kernel
theorem dL_law_348 : decode cL_law 348 = .ok (.iconst 2, 1) := by decide +kernel
theorem dL_law_349 : decode cL_law 349 = .ok (.iadd, 1) := by decide +kernel
theorem dL_law_350 : decode cL_law 350 = .ok (.iaload, 1) := by decide +kernel
theorem dL_law_351 : decode cL_law 351 = .ok (.invokevirtual 41, 3) := by decide +kernel
theorem dL_law_354 : decode cL_law 354 = .ok (.aload_n 2, 1) := by decide +kernel
theorem dL_law_355 : decode cL_law 355 = .ok (.aload_n 0, 1) := by decide +kernel
theorem dL_law_356 : decode cL_law 356 = .ok (.iload_n 3, 1) := by decide +kernel
theorem dL_law_357 : decode cL_law 357 = .ok (.iconst 1, 1) := by decide +kernel
theorem dL_law_358 : decode cL_law 358 = .ok (.iadd, 1) := by decide +kernel
theorem dL_law_359 : decode cL_law 359 = .ok (.iaload, 1) := by decide +kernel
theorem dL_law_360 : decode cL_law 360 = .ok (.aload_n 0, 1) := by decide +kernel
theorem dL_law_361 : decode cL_law 361 = .ok (.iload_n 3, 1) := by decide +kernel
theorem dL_law_362 : decode cL_law 362 = .ok (.iconst 2, 1) := by decide +kernel
theorem dL_law_363 : decode cL_law 363 = .ok (.iadd, 1) := by decide +kernel
theorem dL_law_364 : decode cL_law 364 = .ok (.iaload, 1) := by decide +kernel
theorem dL_law_365 : decode cL_law 365 = .ok (.invokevirtual 45, 3) := by decide +kernel
theorem dL_law_368 : decode cL_law 368 = .ok (.if_icmp .eq 811, 3) := by decide +kernel
theorem dL_law_373 : decode cL_law 373 = .ok (.aload_n 1, 1) := by decide +kernel
theorem dL_law_374 : decode cL_law 374 = .ok (.aload_n 0, 1) := by decide +kernel
theorem dL_law_375 : decode cL_law 375 = .ok (.iload_n 3, 1) := by decide +kernel
theorem dL_law_376 : decode cL_law 376 = .ok (.iconst 1, 1) := by decide +kernel
theorem dL_law_377 : decode cL_law 377 = .ok (.iadd, 1) := by decide +kernel
theorem dL_law_378 : decode cL_law 378 = .ok (.iaload, 1) := by decide +kernel
theorem dL_law_379 : decode cL_law 379 = .ok (.invokevirtual 46, 3) := by decide +kernel
theorem dL_law_382 : decode cL_law 382 = .ok (.aload_n 2, 1) := by decide +kernel
theorem dL_law_383 : decode cL_law 383 = .ok (.aload_n 0, 1) := by decide +kernel
theorem dL_law_384 : decode cL_law 384 = .ok (.iload_n 3, 1) := by decide +kernel
theorem dL_law_385 : decode cL_law 385 = .ok (.iconst 1, 1) := by decide +kernel
theorem dL_law_386 : decode cL_law 386 = .ok (.iadd, 1) := by decide +kernel
theorem dL_law_387 : decode cL_law 387 = .ok (.iaload, 1) := by decide +kernel
theorem dL_law_388 : decode cL_law 388 = .ok (.invokevirtual 50, 3) := by decide +kernel
theorem dL_law_391 : decode cL_law 391 = .ok (.if_icmp .eq 788, 3) := by decide +kernel
theorem dL_law_396 : decode cL_law 396 = .ok (.aload_n 1, 1) := by decide +kernel
theorem dL_law_397 : decode cL_law 397 = .ok (.aload_n 0, 1) := by decide +kernel
theorem dL_law_398 : decode cL_law 398 = .ok (.iload_n 3, 1) := by decide +kernel
theorem dL_law_399 : decode cL_law 399 = .ok (.iconst 1, 1) := by decide +kernel
theorem dL_law_400 : decode cL_law 400 = .ok (.iadd, 1) := by decide +kernel
theorem dL_law_401 : decode cL_law 401 = .ok (.iaload, 1) := by decide +kernel
theorem dL_law_402 : decode cL_law 402 = .ok (.invokevirtual 51, 3) := by decide +kernel
theorem dL_law_405 : decode cL_law 405 = .ok (.aload_n 2, 1) := by decide +kernel
theorem dL_law_406 : decode cL_law 406 = .ok (.aload_n 0, 1) := by decide +kernel
theorem dL_law_407 : decode cL_law 407 = .ok (.iload_n 3, 1) := by decide +kernel
theorem dL_law_408 : decode cL_law 408 = .ok (.iconst 1, 1) := by decide +kernel
theorem dL_law_409 : decode cL_law 409 = .ok (.iadd, 1) := by decide +kernel
theorem dL_law_410 : decode cL_law 410 = .ok (.iaload, 1) := by decide +kernel
theorem dL_law_411 : decode cL_law 411 = .ok (.invokevirtual 54, 3) := by decide +kernel
theorem dL_law_414 : decode cL_law 414 = .ok (.if_icmp .eq 765, 3) := by decide +kernel
theorem dL_law_419 : decode cL_law 419 = .ok (.aload_n 1, 1) := by decide +kernel
theorem dL_law_420 : decode cL_law 420 = .ok (.invokevirtual 55, 3) := by decide +kernel
theorem dL_law_423 : decode cL_law 423 = .ok (.aload_n 2, 1) := by decide +kernel
theorem dL_law_424 : decode cL_law 424 = .ok (.invokevirtual 59, 3) := by decide +kernel
theorem dL_law_427 : decode cL_law 427 = .ok (.if_icmp .eq 752, 3) := by decide +kernel
theorem dL_law_432 : decode cL_law 432 = .ok (.aload_n 1, 1) := by decide +kernel
theorem dL_law_433 : decode cL_law 433 = .ok (.aload_n 0, 1) := by decide +kernel
theorem dL_law_434 : decode cL_law 434 = .ok (.iload_n 3, 1) := by decide +kernel
theorem dL_law_435 : decode cL_law 435 = .ok (.iconst 1, 1) := by decide +kernel
theorem dL_law_436 : decode cL_law 436 = .ok (.iadd, 1) := by decide +kernel
theorem dL_law_437 : decode cL_law 437 = .ok (.iaload, 1) := by decide +kernel
theorem dL_law_438 : decode cL_law 438 = .ok (.aload_n 0, 1) := by decide +kernel
theorem dL_law_439 : decode cL_law 439 = .ok (.iload_n 3, 1) := by decide +kernel
theorem dL_law_440 : decode cL_law 440 = .ok (.iconst 2, 1) := by decide +kernel
theorem dL_law_441 : decode cL_law 441 = .ok (.iadd, 1) := by decide +kernel
theorem dL_law_442 : decode cL_law 442 = .ok (.iaload, 1) := by decide +kernel
theorem dL_law_443 : decode cL_law 443 = .ok (.aload_n 0, 1) := by decide +kernel
theorem dL_law_444 : decode cL_law 444 = .ok (.iload_n 3, 1) := by decide +kernel
theorem dL_law_445 : decode cL_law 445 = .ok (.iconst 3, 1) := by decide +kernel
theorem dL_law_446 : decode cL_law 446 = .ok (.iadd, 1) := by decide +kernel
theorem dL_law_447 : decode cL_law 447 = .ok (.iaload, 1) := by decide +kernel
theorem dL_law_448 : decode cL_law 448 = .ok (.aload_n 0, 1) := by decide +kernel
theorem dL_law_449 : decode cL_law 449 = .ok (.iload_n 3, 1) := by decide +kernel
theorem dL_law_450 : decode cL_law 450 = .ok (.iconst 4, 1) := by decide +kernel
theorem dL_law_451 : decode cL_law 451 = .ok (.iadd, 1) := by decide +kernel
theorem dL_law_452 : decode cL_law 452 = .ok (.iaload, 1) := by decide +kernel
theorem dL_law_453 : decode cL_law 453 = .ok (.i2l, 1) := by decide +kernel
theorem dL_law_454 : decode cL_law 454 = .ok (.bipush 32, 2) := by decide +kernel
theorem dL_law_456 : decode cL_law 456 = .ok (.lshl, 1) := by decide +kernel
theorem dL_law_457 : decode cL_law 457 = .ok (.aload_n 0, 1) := by decide +kernel
theorem dL_law_458 : decode cL_law 458 = .ok (.iload_n 3, 1) := by decide +kernel
theorem dL_law_459 : decode cL_law 459 = .ok (.iconst 5, 1) := by decide +kernel
theorem dL_law_460 : decode cL_law 460 = .ok (.iadd, 1) := by decide +kernel
theorem dL_law_461 : decode cL_law 461 = .ok (.iaload, 1) := by decide +kernel
theorem dL_law_462 : decode cL_law 462 = .ok (.i2l, 1) := by decide +kernel
theorem dL_law_463 : decode cL_law 463 = .ok (.ldc2_w 60, 3) := by decide +kernel
theorem dL_law_466 : decode cL_law 466 = .ok (.land, 1) := by decide +kernel
theorem dL_law_467 : decode cL_law 467 = .ok (.lor, 1) := by decide +kernel
theorem dL_law_468 : decode cL_law 468 = .ok (.invokevirtual 62, 3) := by decide +kernel
theorem dL_law_471 : decode cL_law 471 = .ok (.aload_n 2, 1) := by decide +kernel
theorem dL_law_472 : decode cL_law 472 = .ok (.aload_n 0, 1) := by decide +kernel
theorem dL_law_473 : decode cL_law 473 = .ok (.iload_n 3, 1) := by decide +kernel
theorem dL_law_474 : decode cL_law 474 = .ok (.iconst 1, 1) := by decide +kernel
theorem dL_law_475 : decode cL_law 475 = .ok (.iadd, 1) := by decide +kernel
theorem dL_law_476 : decode cL_law 476 = .ok (.iaload, 1) := by decide +kernel
theorem dL_law_477 : decode cL_law 477 = .ok (.aload_n 0, 1) := by decide +kernel
theorem dL_law_478 : decode cL_law 478 = .ok (.iload_n 3, 1) := by decide +kernel
theorem dL_law_479 : decode cL_law 479 = .ok (.iconst 2, 1) := by decide +kernel
theorem dL_law_480 : decode cL_law 480 = .ok (.iadd, 1) := by decide +kernel
theorem dL_law_481 : decode cL_law 481 = .ok (.iaload, 1) := by decide +kernel
theorem dL_law_482 : decode cL_law 482 = .ok (.aload_n 0, 1) := by decide +kernel
theorem dL_law_483 : decode cL_law 483 = .ok (.iload_n 3, 1) := by decide +kernel
theorem dL_law_484 : decode cL_law 484 = .ok (.iconst 3, 1) := by decide +kernel
theorem dL_law_485 : decode cL_law 485 = .ok (.iadd, 1) := by decide +kernel
theorem dL_law_486 : decode cL_law 486 = .ok (.iaload, 1) := by decide +kernel
theorem dL_law_487 : decode cL_law 487 = .ok (.aload_n 0, 1) := by decide +kernel
theorem dL_law_488 : decode cL_law 488 = .ok (.iload_n 3, 1) := by decide +kernel
theorem dL_law_489 : decode cL_law 489 = .ok (.iconst 4, 1) := by decide +kernel
theorem dL_law_490 : decode cL_law 490 = .ok (.iadd, 1) := by decide +kernel
theorem dL_law_491 : decode cL_law 491 = .ok (.iaload, 1) := by decide +kernel
theorem dL_law_492 : decode cL_law 492 = .ok (.i2l, 1) := by decide +kernel
theorem dL_law_493 : decode cL_law 493 = .ok (.bipush 32, 2) := by decide +kernel
theorem dL_law_495 : decode cL_law 495 = .ok (.lshl, 1) := by decide +kernel
theorem dL_law_496 : decode cL_law 496 = .ok (.aload_n 0, 1) := by decide +kernel
theorem dL_law_497 : decode cL_law 497 = .ok (.iload_n 3, 1) := by decide +kernel
theorem dL_law_498 : decode cL_law 498 = .ok (.iconst 5, 1) := by decide +kernel
theorem dL_law_499 : decode cL_law 499 = .ok (.iadd, 1) := by decide +kernel
theorem dL_law_500 : decode cL_law 500 = .ok (.iaload, 1) := by decide +kernel
theorem dL_law_501 : decode cL_law 501 = .ok (.i2l, 1) := by decide +kernel
theorem dL_law_502 : decode cL_law 502 = .ok (.ldc2_w 60, 3) := by decide +kernel
theorem dL_law_505 : decode cL_law 505 = .ok (.land, 1) := by decide +kernel
theorem dL_law_506 : decode cL_law 506 = .ok (.lor, 1) := by decide +kernel
theorem dL_law_507 : decode cL_law 507 = .ok (.invokevirtual 66, 3) := by decide +kernel
theorem dL_law_510 : decode cL_law 510 = .ok (.if_icmp .eq 669, 3) := by decide +kernel
theorem dL_law_515 : decode cL_law 515 = .ok (.aload_n 1, 1) := by decide +kernel
theorem dL_law_516 : decode cL_law 516 = .ok (.aload_n 0, 1) := by decide +kernel
theorem dL_law_517 : decode cL_law 517 = .ok (.iload_n 3, 1) := by decide +kernel
theorem dL_law_518 : decode cL_law 518 = .ok (.iconst 1, 1) := by decide +kernel
theorem dL_law_519 : decode cL_law 519 = .ok (.iadd, 1) := by decide +kernel
theorem dL_law_520 : decode cL_law 520 = .ok (.iaload, 1) := by decide +kernel
theorem dL_law_521 : decode cL_law 521 = .ok (.invokevirtual 67, 3) := by decide +kernel
theorem dL_law_524 : decode cL_law 524 = .ok (.aload_n 2, 1) := by decide +kernel
theorem dL_law_525 : decode cL_law 525 = .ok (.aload_n 0, 1) := by decide +kernel
theorem dL_law_526 : decode cL_law 526 = .ok (.iload_n 3, 1) := by decide +kernel
theorem dL_law_527 : decode cL_law 527 = .ok (.iconst 1, 1) := by decide +kernel
theorem dL_law_528 : decode cL_law 528 = .ok (.iadd, 1) := by decide +kernel
theorem dL_law_529 : decode cL_law 529 = .ok (.iaload, 1) := by decide +kernel
theorem dL_law_530 : decode cL_law 530 = .ok (.invokevirtual 70, 3) := by decide +kernel
theorem dL_law_533 : decode cL_law 533 = .ok (.if_icmp .eq 646, 3) := by decide +kernel
theorem dL_law_538 : decode cL_law 538 = .ok (.aload_n 1, 1) := by decide +kernel
theorem dL_law_539 : decode cL_law 539 = .ok (.aload_n 0, 1) := by decide +kernel
theorem dL_law_540 : decode cL_law 540 = .ok (.iload_n 3, 1) := by decide +kernel
theorem dL_law_541 : decode cL_law 541 = .ok (.iconst 1, 1) := by decide +kernel
theorem dL_law_542 : decode cL_law 542 = .ok (.iadd, 1) := by decide +kernel
theorem dL_law_543 : decode cL_law 543 = .ok (.iaload, 1) := by decide +kernel
theorem dL_law_544 : decode cL_law 544 = .ok (.aload_n 0, 1) := by decide +kernel
theorem dL_law_545 : decode cL_law 545 = .ok (.iload_n 3, 1) := by decide +kernel
theorem dL_law_546 : decode cL_law 546 = .ok (.iconst 2, 1) := by decide +kernel
theorem dL_law_547 : decode cL_law 547 = .ok (.iadd, 1) := by decide +kernel
theorem dL_law_548 : decode cL_law 548 = .ok (.iaload, 1) := by decide +kernel
theorem dL_law_549 : decode cL_law 549 = .ok (.aload_n 0, 1) := by decide +kernel
theorem dL_law_550 : decode cL_law 550 = .ok (.iload_n 3, 1) := by decide +kernel
theorem dL_law_551 : decode cL_law 551 = .ok (.iconst 3, 1) := by decide +kernel
theorem dL_law_552 : decode cL_law 552 = .ok (.iadd, 1) := by decide +kernel
theorem dL_law_553 : decode cL_law 553 = .ok (.iaload, 1) := by decide +kernel
theorem dL_law_554 : decode cL_law 554 = .ok (.invokevirtual 71, 3) := by decide +kernel
theorem dL_law_557 : decode cL_law 557 = .ok (.aload_n 2, 1) := by decide +kernel
theorem dL_law_558 : decode cL_law 558 = .ok (.aload_n 0, 1) := by decide +kernel
theorem dL_law_559 : decode cL_law 559 = .ok (.iload_n 3, 1) := by decide +kernel
theorem dL_law_560 : decode cL_law 560 = .ok (.iconst 1, 1) := by decide +kernel
theorem dL_law_561 : decode cL_law 561 = .ok (.iadd, 1) := by decide +kernel
theorem dL_law_562 : decode cL_law 562 = .ok (.iaload, 1) := by decide +kernel
theorem dL_law_563 : decode cL_law 563 = .ok (.aload_n 0, 1) := by decide +kernel
theorem dL_law_564 : decode cL_law 564 = .ok (.iload_n 3, 1) := by decide +kernel
theorem dL_law_565 : decode cL_law 565 = .ok (.iconst 2, 1) := by decide +kernel
theorem dL_law_566 : decode cL_law 566 = .ok (.iadd, 1) := by decide +kernel
theorem dL_law_567 : decode cL_law 567 = .ok (.iaload, 1) := by decide +kernel
theorem dL_law_568 : decode cL_law 568 = .ok (.aload_n 0, 1) := by decide +kernel
theorem dL_law_569 : decode cL_law 569 = .ok (.iload_n 3, 1) := by decide +kernel
theorem dL_law_570 : decode cL_law 570 = .ok (.iconst 3, 1) := by decide +kernel
theorem dL_law_571 : decode cL_law 571 = .ok (.iadd, 1) := by decide +kernel
theorem dL_law_572 : decode cL_law 572 = .ok (.iaload, 1) := by decide +kernel
theorem dL_law_573 : decode cL_law 573 = .ok (.invokevirtual 75, 3) := by decide +kernel
theorem dL_law_576 : decode cL_law 576 = .ok (.if_icmp .eq 603, 3) := by decide +kernel
theorem dL_law_581 : decode cL_law 581 = .ok (.aload_n 1, 1) := by decide +kernel
theorem dL_law_582 : decode cL_law 582 = .ok (.aload_n 0, 1) := by decide +kernel
theorem dL_law_583 : decode cL_law 583 = .ok (.iload_n 3, 1) := by decide +kernel
theorem dL_law_584 : decode cL_law 584 = .ok (.iconst 1, 1) := by decide +kernel
theorem dL_law_585 : decode cL_law 585 = .ok (.iadd, 1) := by decide +kernel
theorem dL_law_586 : decode cL_law 586 = .ok (.iaload, 1) := by decide +kernel
theorem dL_law_587 : decode cL_law 587 = .ok (.aload_n 0, 1) := by decide +kernel
theorem dL_law_588 : decode cL_law 588 = .ok (.iload_n 3, 1) := by decide +kernel
theorem dL_law_589 : decode cL_law 589 = .ok (.iconst 2, 1) := by decide +kernel
theorem dL_law_590 : decode cL_law 590 = .ok (.iadd, 1) := by decide +kernel
theorem dL_law_591 : decode cL_law 591 = .ok (.iaload, 1) := by decide +kernel
theorem dL_law_592 : decode cL_law 592 = .ok (.i2l, 1) := by decide +kernel
theorem dL_law_593 : decode cL_law 593 = .ok (.bipush 32, 2) := by decide +kernel
theorem dL_law_595 : decode cL_law 595 = .ok (.lshl, 1) := by decide +kernel
theorem dL_law_596 : decode cL_law 596 = .ok (.aload_n 0, 1) := by decide +kernel
theorem dL_law_597 : decode cL_law 597 = .ok (.iload_n 3, 1) := by decide +kernel
theorem dL_law_598 : decode cL_law 598 = .ok (.iconst 3, 1) := by decide +kernel
theorem dL_law_599 : decode cL_law 599 = .ok (.iadd, 1) := by decide +kernel
theorem dL_law_600 : decode cL_law 600 = .ok (.iaload, 1) := by decide +kernel
theorem dL_law_601 : decode cL_law 601 = .ok (.i2l, 1) := by decide +kernel
theorem dL_law_602 : decode cL_law 602 = .ok (.ldc2_w 60, 3) := by decide +kernel
theorem dL_law_605 : decode cL_law 605 = .ok (.land, 1) := by decide +kernel
theorem dL_law_606 : decode cL_law 606 = .ok (.lor, 1) := by decide +kernel
theorem dL_law_607 : decode cL_law 607 = .ok (.invokevirtual 76, 3) := by decide +kernel
theorem dL_law_610 : decode cL_law 610 = .ok (.aload_n 2, 1) := by decide +kernel
theorem dL_law_611 : decode cL_law 611 = .ok (.aload_n 0, 1) := by decide +kernel
theorem dL_law_612 : decode cL_law 612 = .ok (.iload_n 3, 1) := by decide +kernel
theorem dL_law_613 : decode cL_law 613 = .ok (.iconst 1, 1) := by decide +kernel
theorem dL_law_614 : decode cL_law 614 = .ok (.iadd, 1) := by decide +kernel
theorem dL_law_615 : decode cL_law 615 = .ok (.iaload, 1) := by decide +kernel
theorem dL_law_616 : decode cL_law 616 = .ok (.aload_n 0, 1) := by decide +kernel
theorem dL_law_617 : decode cL_law 617 = .ok (.iload_n 3, 1) := by decide +kernel
theorem dL_law_618 : decode cL_law 618 = .ok (.iconst 2, 1) := by decide +kernel
theorem dL_law_619 : decode cL_law 619 = .ok (.iadd, 1) := by decide +kernel
theorem dL_law_620 : decode cL_law 620 = .ok (.iaload, 1) := by decide +kernel
theorem dL_law_621 : decode cL_law 621 = .ok (.i2l, 1) := by decide +kernel
theorem dL_law_622 : decode cL_law 622 = .ok (.bipush 32, 2) := by decide +kernel
theorem dL_law_624 : decode cL_law 624 = .ok (.lshl, 1) := by decide +kernel
theorem dL_law_625 : decode cL_law 625 = .ok (.aload_n 0, 1) := by decide +kernel
theorem dL_law_626 : decode cL_law 626 = .ok (.iload_n 3, 1) := by decide +kernel
theorem dL_law_627 : decode cL_law 627 = .ok (.iconst 3, 1) := by decide +kernel
theorem dL_law_628 : decode cL_law 628 = .ok (.iadd, 1) := by decide +kernel
theorem dL_law_629 : decode cL_law 629 = .ok (.iaload, 1) := by decide +kernel
theorem dL_law_630 : decode cL_law 630 = .ok (.i2l, 1) := by decide +kernel
theorem dL_law_631 : decode cL_law 631 = .ok (.ldc2_w 60, 3) := by decide +kernel
theorem dL_law_634 : decode cL_law 634 = .ok (.land, 1) := by decide +kernel
theorem dL_law_635 : decode cL_law 635 = .ok (.lor, 1) := by decide +kernel
theorem dL_law_636 : decode cL_law 636 = .ok (.invokevirtual 80, 3) := by decide +kernel
theorem dL_law_639 : decode cL_law 639 = .ok (.if_icmp .eq 540, 3) := by decide +kernel
theorem dL_law_644 : decode cL_law 644 = .ok (.aload_n 1, 1) := by decide +kernel
theorem dL_law_645 : decode cL_law 645 = .ok (.invokevirtual 81, 3) := by decide +kernel
theorem dL_law_648 : decode cL_law 648 = .ok (.aload_n 2, 1) := by decide +kernel
theorem dL_law_649 : decode cL_law 649 = .ok (.invokevirtual 84, 3) := by decide +kernel
theorem dL_law_652 : decode cL_law 652 = .ok (.if_icmp .eq 527, 3) := by decide +kernel
theorem dL_law_657 : decode cL_law 657 = .ok (.aload_n 1, 1) := by decide +kernel
theorem dL_law_658 : decode cL_law 658 = .ok (.aload_n 0, 1) := by decide +kernel
theorem dL_law_659 : decode cL_law 659 = .ok (.iload_n 3, 1) := by decide +kernel
theorem dL_law_660 : decode cL_law 660 = .ok (.iconst 1, 1) := by decide +kernel
theorem dL_law_661 : decode cL_law 661 = .ok (.iadd, 1) := by decide +kernel
theorem dL_law_662 : decode cL_law 662 = .ok (.iaload, 1) := by decide +kernel
theorem dL_law_663 : decode cL_law 663 = .ok (.aload_n 0, 1) := by decide +kernel
theorem dL_law_664 : decode cL_law 664 = .ok (.iload_n 3, 1) := by decide +kernel
theorem dL_law_665 : decode cL_law 665 = .ok (.iconst 2, 1) := by decide +kernel
theorem dL_law_666 : decode cL_law 666 = .ok (.iadd, 1) := by decide +kernel
theorem dL_law_667 : decode cL_law 667 = .ok (.iaload, 1) := by decide +kernel
theorem dL_law_668 : decode cL_law 668 = .ok (.invokevirtual 85, 3) := by decide +kernel
theorem dL_law_671 : decode cL_law 671 = .ok (.aload_n 2, 1) := by decide +kernel
theorem dL_law_672 : decode cL_law 672 = .ok (.aload_n 0, 1) := by decide +kernel
theorem dL_law_673 : decode cL_law 673 = .ok (.iload_n 3, 1) := by decide +kernel
theorem dL_law_674 : decode cL_law 674 = .ok (.iconst 1, 1) := by decide +kernel
theorem dL_law_675 : decode cL_law 675 = .ok (.iadd, 1) := by decide +kernel
theorem dL_law_676 : decode cL_law 676 = .ok (.iaload, 1) := by decide +kernel
theorem dL_law_677 : decode cL_law 677 = .ok (.aload_n 0, 1) := by decide +kernel
theorem dL_law_678 : decode cL_law 678 = .ok (.iload_n 3, 1) := by decide +kernel
theorem dL_law_679 : decode cL_law 679 = .ok (.iconst 2, 1) := by decide +kernel
theorem dL_law_680 : decode cL_law 680 = .ok (.iadd, 1) := by decide +kernel
theorem dL_law_681 : decode cL_law 681 = .ok (.iaload, 1) := by decide +kernel
theorem dL_law_682 : decode cL_law 682 = .ok (.invokevirtual 88, 3) := by decide +kernel
theorem dL_law_685 : decode cL_law 685 = .ok (.if_icmp .eq 494, 3) := by decide +kernel
theorem dL_law_690 : decode cL_law 690 = .ok (.aload_n 1, 1) := by decide +kernel
theorem dL_law_691 : decode cL_law 691 = .ok (.aload_n 0, 1) := by decide +kernel
theorem dL_law_692 : decode cL_law 692 = .ok (.iload_n 3, 1) := by decide +kernel
theorem dL_law_693 : decode cL_law 693 = .ok (.iconst 1, 1) := by decide +kernel
theorem dL_law_694 : decode cL_law 694 = .ok (.iadd, 1) := by decide +kernel
theorem dL_law_695 : decode cL_law 695 = .ok (.iaload, 1) := by decide +kernel
theorem dL_law_696 : decode cL_law 696 = .ok (.aload_n 0, 1) := by decide +kernel
theorem dL_law_697 : decode cL_law 697 = .ok (.iload_n 3, 1) := by decide +kernel
theorem dL_law_698 : decode cL_law 698 = .ok (.iconst 2, 1) := by decide +kernel
theorem dL_law_699 : decode cL_law 699 = .ok (.iadd, 1) := by decide +kernel
theorem dL_law_700 : decode cL_law 700 = .ok (.iaload, 1) := by decide +kernel
theorem dL_law_701 : decode cL_law 701 = .ok (.invokevirtual 89, 3) := by decide +kernel
theorem dL_law_704 : decode cL_law 704 = .ok (.aload_n 2, 1) := by decide +kernel
theorem dL_law_705 : decode cL_law 705 = .ok (.aload_n 0, 1) := by decide +kernel
theorem dL_law_706 : decode cL_law 706 = .ok (.iload_n 3, 1) := by decide +kernel
theorem dL_law_707 : decode cL_law 707 = .ok (.iconst 1, 1) := by decide +kernel
theorem dL_law_708 : decode cL_law 708 = .ok (.iadd, 1) := by decide +kernel
theorem dL_law_709 : decode cL_law 709 = .ok (.iaload, 1) := by decide +kernel
theorem dL_law_710 : decode cL_law 710 = .ok (.aload_n 0, 1) := by decide +kernel
theorem dL_law_711 : decode cL_law 711 = .ok (.iload_n 3, 1) := by decide +kernel
theorem dL_law_712 : decode cL_law 712 = .ok (.iconst 2, 1) := by decide +kernel
theorem dL_law_713 : decode cL_law 713 = .ok (.iadd, 1) := by decide +kernel
theorem dL_law_714 : decode cL_law 714 = .ok (.iaload, 1) := by decide +kernel
theorem dL_law_715 : decode cL_law 715 = .ok (.invokevirtual 92, 3) := by decide +kernel
theorem dL_law_718 : decode cL_law 718 = .ok (.if_icmp .eq 461, 3) := by decide +kernel
theorem dL_law_723 : decode cL_law 723 = .ok (.aload_n 1, 1) := by decide +kernel
theorem dL_law_724 : decode cL_law 724 = .ok (.aload_n 0, 1) := by decide +kernel
theorem dL_law_725 : decode cL_law 725 = .ok (.iload_n 3, 1) := by decide +kernel
theorem dL_law_726 : decode cL_law 726 = .ok (.iconst 1, 1) := by decide +kernel
theorem dL_law_727 : decode cL_law 727 = .ok (.iadd, 1) := by decide +kernel
theorem dL_law_728 : decode cL_law 728 = .ok (.iaload, 1) := by decide +kernel
theorem dL_law_729 : decode cL_law 729 = .ok (.aload_n 0, 1) := by decide +kernel
theorem dL_law_730 : decode cL_law 730 = .ok (.iload_n 3, 1) := by decide +kernel
theorem dL_law_731 : decode cL_law 731 = .ok (.iconst 2, 1) := by decide +kernel
theorem dL_law_732 : decode cL_law 732 = .ok (.iadd, 1) := by decide +kernel
theorem dL_law_733 : decode cL_law 733 = .ok (.iaload, 1) := by decide +kernel
theorem dL_law_734 : decode cL_law 734 = .ok (.invokevirtual 93, 3) := by decide +kernel
theorem dL_law_737 : decode cL_law 737 = .ok (.aload_n 2, 1) := by decide +kernel
theorem dL_law_738 : decode cL_law 738 = .ok (.aload_n 0, 1) := by decide +kernel
theorem dL_law_739 : decode cL_law 739 = .ok (.iload_n 3, 1) := by decide +kernel
theorem dL_law_740 : decode cL_law 740 = .ok (.iconst 1, 1) := by decide +kernel
theorem dL_law_741 : decode cL_law 741 = .ok (.iadd, 1) := by decide +kernel
theorem dL_law_742 : decode cL_law 742 = .ok (.iaload, 1) := by decide +kernel
theorem dL_law_743 : decode cL_law 743 = .ok (.aload_n 0, 1) := by decide +kernel
theorem dL_law_744 : decode cL_law 744 = .ok (.iload_n 3, 1) := by decide +kernel
theorem dL_law_745 : decode cL_law 745 = .ok (.iconst 2, 1) := by decide +kernel
theorem dL_law_746 : decode cL_law 746 = .ok (.iadd, 1) := by decide +kernel
theorem dL_law_747 : decode cL_law 747 = .ok (.iaload, 1) := by decide +kernel
theorem dL_law_748 : decode cL_law 748 = .ok (.invokevirtual 96, 3) := by decide +kernel
theorem dL_law_751 : decode cL_law 751 = .ok (.if_icmp .eq 428, 3) := by decide +kernel
theorem dL_law_756 : decode cL_law 756 = .ok (.aload_n 1, 1) := by decide +kernel
theorem dL_law_757 : decode cL_law 757 = .ok (.aload_n 0, 1) := by decide +kernel
theorem dL_law_758 : decode cL_law 758 = .ok (.iload_n 3, 1) := by decide +kernel
theorem dL_law_759 : decode cL_law 759 = .ok (.iconst 1, 1) := by decide +kernel
theorem dL_law_760 : decode cL_law 760 = .ok (.iadd, 1) := by decide +kernel
theorem dL_law_761 : decode cL_law 761 = .ok (.iaload, 1) := by decide +kernel
theorem dL_law_762 : decode cL_law 762 = .ok (.aload_n 0, 1) := by decide +kernel
theorem dL_law_763 : decode cL_law 763 = .ok (.iload_n 3, 1) := by decide +kernel
theorem dL_law_764 : decode cL_law 764 = .ok (.iconst 2, 1) := by decide +kernel
theorem dL_law_765 : decode cL_law 765 = .ok (.iadd, 1) := by decide +kernel
theorem dL_law_766 : decode cL_law 766 = .ok (.iaload, 1) := by decide +kernel
theorem dL_law_767 : decode cL_law 767 = .ok (.invokevirtual 97, 3) := by decide +kernel
theorem dL_law_770 : decode cL_law 770 = .ok (.aload_n 2, 1) := by decide +kernel
theorem dL_law_771 : decode cL_law 771 = .ok (.aload_n 0, 1) := by decide +kernel
theorem dL_law_772 : decode cL_law 772 = .ok (.iload_n 3, 1) := by decide +kernel
theorem dL_law_773 : decode cL_law 773 = .ok (.iconst 1, 1) := by decide +kernel
theorem dL_law_774 : decode cL_law 774 = .ok (.iadd, 1) := by decide +kernel
theorem dL_law_775 : decode cL_law 775 = .ok (.iaload, 1) := by decide +kernel
theorem dL_law_776 : decode cL_law 776 = .ok (.aload_n 0, 1) := by decide +kernel
theorem dL_law_777 : decode cL_law 777 = .ok (.iload_n 3, 1) := by decide +kernel
theorem dL_law_778 : decode cL_law 778 = .ok (.iconst 2, 1) := by decide +kernel
theorem dL_law_779 : decode cL_law 779 = .ok (.iadd, 1) := by decide +kernel
theorem dL_law_780 : decode cL_law 780 = .ok (.iaload, 1) := by decide +kernel
theorem dL_law_781 : decode cL_law 781 = .ok (.invokevirtual 100, 3) := by decide +kernel
theorem dL_law_784 : decode cL_law 784 = .ok (.if_icmp .eq 395, 3) := by decide +kernel
theorem dL_law_789 : decode cL_law 789 = .ok (.aload_n 1, 1) := by decide +kernel
theorem dL_law_790 : decode cL_law 790 = .ok (.aload_n 0, 1) := by decide +kernel
theorem dL_law_791 : decode cL_law 791 = .ok (.iload_n 3, 1) := by decide +kernel
theorem dL_law_792 : decode cL_law 792 = .ok (.iconst 1, 1) := by decide +kernel
theorem dL_law_793 : decode cL_law 793 = .ok (.iadd, 1) := by decide +kernel
theorem dL_law_794 : decode cL_law 794 = .ok (.iaload, 1) := by decide +kernel
theorem dL_law_795 : decode cL_law 795 = .ok (.invokevirtual 101, 3) := by decide +kernel
theorem dL_law_798 : decode cL_law 798 = .ok (.aload_n 2, 1) := by decide +kernel
theorem dL_law_799 : decode cL_law 799 = .ok (.aload_n 0, 1) := by decide +kernel
theorem dL_law_800 : decode cL_law 800 = .ok (.iload_n 3, 1) := by decide +kernel
theorem dL_law_801 : decode cL_law 801 = .ok (.iconst 1, 1) := by decide +kernel
theorem dL_law_802 : decode cL_law 802 = .ok (.iadd, 1) := by decide +kernel
theorem dL_law_803 : decode cL_law 803 = .ok (.iaload, 1) := by decide +kernel
theorem dL_law_804 : decode cL_law 804 = .ok (.invokevirtual 104, 3) := by decide +kernel
theorem dL_law_807 : decode cL_law 807 = .ok (.if_icmp .eq 372, 3) := by decide +kernel
theorem dL_law_812 : decode cL_law 812 = .ok (.aload_n 1, 1) := by decide +kernel
theorem dL_law_813 : decode cL_law 813 = .ok (.aload_n 0, 1) := by decide +kernel
theorem dL_law_814 : decode cL_law 814 = .ok (.iload_n 3, 1) := by decide +kernel
theorem dL_law_815 : decode cL_law 815 = .ok (.iconst 1, 1) := by decide +kernel
theorem dL_law_816 : decode cL_law 816 = .ok (.iadd, 1) := by decide +kernel
theorem dL_law_817 : decode cL_law 817 = .ok (.iaload, 1) := by decide +kernel
theorem dL_law_818 : decode cL_law 818 = .ok (.aload_n 0, 1) := by decide +kernel
theorem dL_law_819 : decode cL_law 819 = .ok (.iload_n 3, 1) := by decide +kernel
theorem dL_law_820 : decode cL_law 820 = .ok (.iconst 2, 1) := by decide +kernel
theorem dL_law_821 : decode cL_law 821 = .ok (.iadd, 1) := by decide +kernel
theorem dL_law_822 : decode cL_law 822 = .ok (.iaload, 1) := by decide +kernel
theorem dL_law_823 : decode cL_law 823 = .ok (.aload_n 0, 1) := by decide +kernel
theorem dL_law_824 : decode cL_law 824 = .ok (.iload_n 3, 1) := by decide +kernel
theorem dL_law_825 : decode cL_law 825 = .ok (.iconst 3, 1) := by decide +kernel
theorem dL_law_826 : decode cL_law 826 = .ok (.iadd, 1) := by decide +kernel
theorem dL_law_827 : decode cL_law 827 = .ok (.iaload, 1) := by decide +kernel
theorem dL_law_828 : decode cL_law 828 = .ok (.invokevirtual 105, 3) := by decide +kernel
theorem dL_law_831 : decode cL_law 831 = .ok (.aload_n 2, 1) := by decide +kernel
theorem dL_law_832 : decode cL_law 832 = .ok (.aload_n 0, 1) := by decide +kernel
theorem dL_law_833 : decode cL_law 833 = .ok (.iload_n 3, 1) := by decide +kernel
theorem dL_law_834 : decode cL_law 834 = .ok (.iconst 1, 1) := by decide +kernel
theorem dL_law_835 : decode cL_law 835 = .ok (.iadd, 1) := by decide +kernel
theorem dL_law_836 : decode cL_law 836 = .ok (.iaload, 1) := by decide +kernel
theorem dL_law_837 : decode cL_law 837 = .ok (.aload_n 0, 1) := by decide +kernel
theorem dL_law_838 : decode cL_law 838 = .ok (.iload_n 3, 1) := by decide +kernel
theorem dL_law_839 : decode cL_law 839 = .ok (.iconst 2, 1) := by decide +kernel
theorem dL_law_840 : decode cL_law 840 = .ok (.iadd, 1) := by decide +kernel
theorem dL_law_841 : decode cL_law 841 = .ok (.iaload, 1) := by decide +kernel
theorem dL_law_842 : decode cL_law 842 = .ok (.aload_n 0, 1) := by decide +kernel
theorem dL_law_843 : decode cL_law 843 = .ok (.iload_n 3, 1) := by decide +kernel
theorem dL_law_844 : decode cL_law 844 = .ok (.iconst 3, 1) := by decide +kernel
theorem dL_law_845 : decode cL_law 845 = .ok (.iadd, 1) := by decide +kernel
theorem dL_law_846 : decode cL_law 846 = .ok (.iaload, 1) := by decide +kernel
theorem dL_law_847 : decode cL_law 847 = .ok (.invokevirtual 108, 3) := by decide +kernel
theorem dL_law_850 : decode cL_law 850 = .ok (.if_icmp .eq 329, 3) := by decide +kernel
theorem dL_law_855 : decode cL_law 855 = .ok (.aload_n 1, 1) := by decide +kernel
theorem dL_law_856 : decode cL_law 856 = .ok (.invokevirtual 109, 3) := by decide +kernel
theorem dL_law_859 : decode cL_law 859 = .ok (.aload_n 2, 1) := by decide +kernel
theorem dL_law_860 : decode cL_law 860 = .ok (.invokevirtual 112, 3) := by decide +kernel
theorem dL_law_863 : decode cL_law 863 = .ok (.if_icmp .eq 316, 3) := by decide +kernel
theorem dL_law_868 : decode cL_law 868 = .ok (.aload_n 1, 1) := by decide +kernel
theorem dL_law_869 : decode cL_law 869 = .ok (.aload_n 0, 1) := by decide +kernel
theorem dL_law_870 : decode cL_law 870 = .ok (.iload_n 3, 1) := by decide +kernel
theorem dL_law_871 : decode cL_law 871 = .ok (.iconst 1, 1) := by decide +kernel
theorem dL_law_872 : decode cL_law 872 = .ok (.iadd, 1) := by decide +kernel
theorem dL_law_873 : decode cL_law 873 = .ok (.iaload, 1) := by decide +kernel
theorem dL_law_874 : decode cL_law 874 = .ok (.aload_n 0, 1) := by decide +kernel
theorem dL_law_875 : decode cL_law 875 = .ok (.iload_n 3, 1) := by decide +kernel
theorem dL_law_876 : decode cL_law 876 = .ok (.iconst 2, 1) := by decide +kernel
theorem dL_law_877 : decode cL_law 877 = .ok (.iadd, 1) := by decide +kernel
theorem dL_law_878 : decode cL_law 878 = .ok (.iaload, 1) := by decide +kernel
theorem dL_law_879 : decode cL_law 879 = .ok (.invokevirtual 113, 3) := by decide +kernel
theorem dL_law_882 : decode cL_law 882 = .ok (.aload_n 2, 1) := by decide +kernel
theorem dL_law_883 : decode cL_law 883 = .ok (.aload_n 0, 1) := by decide +kernel
theorem dL_law_884 : decode cL_law 884 = .ok (.iload_n 3, 1) := by decide +kernel
theorem dL_law_885 : decode cL_law 885 = .ok (.iconst 1, 1) := by decide +kernel
theorem dL_law_886 : decode cL_law 886 = .ok (.iadd, 1) := by decide +kernel
theorem dL_law_887 : decode cL_law 887 = .ok (.iaload, 1) := by decide +kernel
theorem dL_law_888 : decode cL_law 888 = .ok (.aload_n 0, 1) := by decide +kernel
theorem dL_law_889 : decode cL_law 889 = .ok (.iload_n 3, 1) := by decide +kernel
theorem dL_law_890 : decode cL_law 890 = .ok (.iconst 2, 1) := by decide +kernel
theorem dL_law_891 : decode cL_law 891 = .ok (.iadd, 1) := by decide +kernel
theorem dL_law_892 : decode cL_law 892 = .ok (.iaload, 1) := by decide +kernel
theorem dL_law_893 : decode cL_law 893 = .ok (.invokevirtual 116, 3) := by decide +kernel
theorem dL_law_896 : decode cL_law 896 = .ok (.if_icmp .eq 283, 3) := by decide +kernel
theorem dL_law_901 : decode cL_law 901 = .ok (.aload_n 1, 1) := by decide +kernel
theorem dL_law_902 : decode cL_law 902 = .ok (.aload_n 0, 1) := by decide +kernel
theorem dL_law_903 : decode cL_law 903 = .ok (.iload_n 3, 1) := by decide +kernel
theorem dL_law_904 : decode cL_law 904 = .ok (.iconst 1, 1) := by decide +kernel
theorem dL_law_905 : decode cL_law 905 = .ok (.iadd, 1) := by decide +kernel
theorem dL_law_906 : decode cL_law 906 = .ok (.iaload, 1) := by decide +kernel
theorem dL_law_907 : decode cL_law 907 = .ok (.aload_n 0, 1) := by decide +kernel
theorem dL_law_908 : decode cL_law 908 = .ok (.iload_n 3, 1) := by decide +kernel
theorem dL_law_909 : decode cL_law 909 = .ok (.iconst 2, 1) := by decide +kernel
theorem dL_law_910 : decode cL_law 910 = .ok (.iadd, 1) := by decide +kernel
theorem dL_law_911 : decode cL_law 911 = .ok (.iaload, 1) := by decide +kernel
theorem dL_law_912 : decode cL_law 912 = .ok (.aload_n 0, 1) := by decide +kernel
theorem dL_law_913 : decode cL_law 913 = .ok (.iload_n 3, 1) := by decide +kernel
theorem dL_law_914 : decode cL_law 914 = .ok (.iconst 3, 1) := by decide +kernel
theorem dL_law_915 : decode cL_law 915 = .ok (.iadd, 1) := by decide +kernel
theorem dL_law_916 : decode cL_law 916 = .ok (.iaload, 1) := by decide +kernel
theorem dL_law_917 : decode cL_law 917 = .ok (.invokevirtual 117, 3) := by decide +kernel
theorem dL_law_920 : decode cL_law 920 = .ok (.aload_n 2, 1) := by decide +kernel
theorem dL_law_921 : decode cL_law 921 = .ok (.aload_n 0, 1) := by decide +kernel
theorem dL_law_922 : decode cL_law 922 = .ok (.iload_n 3, 1) := by decide +kernel
theorem dL_law_923 : decode cL_law 923 = .ok (.iconst 1, 1) := by decide +kernel
theorem dL_law_924 : decode cL_law 924 = .ok (.iadd, 1) := by decide +kernel
theorem dL_law_925 : decode cL_law 925 = .ok (.iaload, 1) := by decide +kernel
theorem dL_law_926 : decode cL_law 926 = .ok (.aload_n 0, 1) := by decide +kernel
theorem dL_law_927 : decode cL_law 927 = .ok (.iload_n 3, 1) := by decide +kernel
theorem dL_law_928 : decode cL_law 928 = .ok (.iconst 2, 1) := by decide +kernel
theorem dL_law_929 : decode cL_law 929 = .ok (.iadd, 1) := by decide +kernel
theorem dL_law_930 : decode cL_law 930 = .ok (.iaload, 1) := by decide +kernel
theorem dL_law_931 : decode cL_law 931 = .ok (.aload_n 0, 1) := by decide +kernel
theorem dL_law_932 : decode cL_law 932 = .ok (.iload_n 3, 1) := by decide +kernel
theorem dL_law_933 : decode cL_law 933 = .ok (.iconst 3, 1) := by decide +kernel
theorem dL_law_934 : decode cL_law 934 = .ok (.iadd, 1) := by decide +kernel
theorem dL_law_935 : decode cL_law 935 = .ok (.iaload, 1) := by decide +kernel
theorem dL_law_936 : decode cL_law 936 = .ok (.invokevirtual 121, 3) := by decide +kernel
theorem dL_law_939 : decode cL_law 939 = .ok (.if_icmp .eq 240, 3) := by decide +kernel
theorem dL_law_944 : decode cL_law 944 = .ok (.aload_n 1, 1) := by decide +kernel
theorem dL_law_945 : decode cL_law 945 = .ok (.aload_n 0, 1) := by decide +kernel
theorem dL_law_946 : decode cL_law 946 = .ok (.iload_n 3, 1) := by decide +kernel
theorem dL_law_947 : decode cL_law 947 = .ok (.iconst 1, 1) := by decide +kernel
theorem dL_law_948 : decode cL_law 948 = .ok (.iadd, 1) := by decide +kernel
theorem dL_law_949 : decode cL_law 949 = .ok (.iaload, 1) := by decide +kernel
theorem dL_law_950 : decode cL_law 950 = .ok (.aload_n 0, 1) := by decide +kernel
theorem dL_law_951 : decode cL_law 951 = .ok (.iload_n 3, 1) := by decide +kernel
theorem dL_law_952 : decode cL_law 952 = .ok (.iconst 2, 1) := by decide +kernel
theorem dL_law_953 : decode cL_law 953 = .ok (.iadd, 1) := by decide +kernel
theorem dL_law_954 : decode cL_law 954 = .ok (.iaload, 1) := by decide +kernel
theorem dL_law_955 : decode cL_law 955 = .ok (.invokevirtual 122, 3) := by decide +kernel
theorem dL_law_958 : decode cL_law 958 = .ok (.aload_n 2, 1) := by decide +kernel
theorem dL_law_959 : decode cL_law 959 = .ok (.aload_n 0, 1) := by decide +kernel
theorem dL_law_960 : decode cL_law 960 = .ok (.iload_n 3, 1) := by decide +kernel
theorem dL_law_961 : decode cL_law 961 = .ok (.iconst 1, 1) := by decide +kernel
theorem dL_law_962 : decode cL_law 962 = .ok (.iadd, 1) := by decide +kernel
theorem dL_law_963 : decode cL_law 963 = .ok (.iaload, 1) := by decide +kernel
theorem dL_law_964 : decode cL_law 964 = .ok (.aload_n 0, 1) := by decide +kernel
theorem dL_law_965 : decode cL_law 965 = .ok (.iload_n 3, 1) := by decide +kernel
theorem dL_law_966 : decode cL_law 966 = .ok (.iconst 2, 1) := by decide +kernel
theorem dL_law_967 : decode cL_law 967 = .ok (.iadd, 1) := by decide +kernel
theorem dL_law_968 : decode cL_law 968 = .ok (.iaload, 1) := by decide +kernel
theorem dL_law_969 : decode cL_law 969 = .ok (.invokevirtual 126, 3) := by decide +kernel
theorem dL_law_972 : decode cL_law 972 = .ok (.lcmp, 1) := by decide +kernel
theorem dL_law_973 : decode cL_law 973 = .ok (.ifCond .eq 206, 3) := by decide +kernel
theorem dL_law_978 : decode cL_law 978 = .ok (.aload_n 1, 1) := by decide +kernel
theorem dL_law_979 : decode cL_law 979 = .ok (.aload_n 0, 1) := by decide +kernel
theorem dL_law_980 : decode cL_law 980 = .ok (.iload_n 3, 1) := by decide +kernel
theorem dL_law_981 : decode cL_law 981 = .ok (.iconst 1, 1) := by decide +kernel
theorem dL_law_982 : decode cL_law 982 = .ok (.iadd, 1) := by decide +kernel
theorem dL_law_983 : decode cL_law 983 = .ok (.iaload, 1) := by decide +kernel
theorem dL_law_984 : decode cL_law 984 = .ok (.invokevirtual 127, 3) := by decide +kernel
theorem dL_law_987 : decode cL_law 987 = .ok (.aload_n 2, 1) := by decide +kernel
theorem dL_law_988 : decode cL_law 988 = .ok (.aload_n 0, 1) := by decide +kernel
theorem dL_law_989 : decode cL_law 989 = .ok (.iload_n 3, 1) := by decide +kernel
theorem dL_law_990 : decode cL_law 990 = .ok (.iconst 1, 1) := by decide +kernel
theorem dL_law_991 : decode cL_law 991 = .ok (.iadd, 1) := by decide +kernel
theorem dL_law_992 : decode cL_law 992 = .ok (.iaload, 1) := by decide +kernel
theorem dL_law_993 : decode cL_law 993 = .ok (.invokevirtual 130, 3) := by decide +kernel
theorem dL_law_996 : decode cL_law 996 = .ok (.if_icmp .eq 183, 3) := by decide +kernel
theorem dL_law_1001 : decode cL_law 1001 = .ok (.aload_n 1, 1) := by decide +kernel
theorem dL_law_1002 : decode cL_law 1002 = .ok (.aload_n 0, 1) := by decide +kernel
theorem dL_law_1003 : decode cL_law 1003 = .ok (.iload_n 3, 1) := by decide +kernel
theorem dL_law_1004 : decode cL_law 1004 = .ok (.iconst 1, 1) := by decide +kernel
theorem dL_law_1005 : decode cL_law 1005 = .ok (.iadd, 1) := by decide +kernel
theorem dL_law_1006 : decode cL_law 1006 = .ok (.iaload, 1) := by decide +kernel
theorem dL_law_1007 : decode cL_law 1007 = .ok (.invokevirtual 131, 3) := by decide +kernel
theorem dL_law_1010 : decode cL_law 1010 = .ok (.aload_n 2, 1) := by decide +kernel
theorem dL_law_1011 : decode cL_law 1011 = .ok (.aload_n 0, 1) := by decide +kernel
theorem dL_law_1012 : decode cL_law 1012 = .ok (.iload_n 3, 1) := by decide +kernel
theorem dL_law_1013 : decode cL_law 1013 = .ok (.iconst 1, 1) := by decide +kernel
theorem dL_law_1014 : decode cL_law 1014 = .ok (.iadd, 1) := by decide +kernel
theorem dL_law_1015 : decode cL_law 1015 = .ok (.iaload, 1) := by decide +kernel
theorem dL_law_1016 : decode cL_law 1016 = .ok (.invokevirtual 134, 3) := by decide +kernel
theorem dL_law_1019 : decode cL_law 1019 = .ok (.if_icmp .eq 160, 3) := by decide +kernel
theorem dL_law_1024 : decode cL_law 1024 = .ok (.aload_n 1, 1) := by decide +kernel
theorem dL_law_1025 : decode cL_law 1025 = .ok (.aload_n 0, 1) := by decide +kernel
theorem dL_law_1026 : decode cL_law 1026 = .ok (.iload_n 3, 1) := by decide +kernel
theorem dL_law_1027 : decode cL_law 1027 = .ok (.iconst 1, 1) := by decide +kernel
theorem dL_law_1028 : decode cL_law 1028 = .ok (.iadd, 1) := by decide +kernel
theorem dL_law_1029 : decode cL_law 1029 = .ok (.iaload, 1) := by decide +kernel
theorem dL_law_1030 : decode cL_law 1030 = .ok (.aload_n 0, 1) := by decide +kernel
theorem dL_law_1031 : decode cL_law 1031 = .ok (.iload_n 3, 1) := by decide +kernel
theorem dL_law_1032 : decode cL_law 1032 = .ok (.iconst 2, 1) := by decide +kernel
theorem dL_law_1033 : decode cL_law 1033 = .ok (.iadd, 1) := by decide +kernel
theorem dL_law_1034 : decode cL_law 1034 = .ok (.iaload, 1) := by decide +kernel
theorem dL_law_1035 : decode cL_law 1035 = .ok (.invokevirtual 135, 3) := by decide +kernel
theorem dL_law_1038 : decode cL_law 1038 = .ok (.aload_n 2, 1) := by decide +kernel
theorem dL_law_1039 : decode cL_law 1039 = .ok (.aload_n 0, 1) := by decide +kernel
theorem dL_law_1040 : decode cL_law 1040 = .ok (.iload_n 3, 1) := by decide +kernel
theorem dL_law_1041 : decode cL_law 1041 = .ok (.iconst 1, 1) := by decide +kernel
theorem dL_law_1042 : decode cL_law 1042 = .ok (.iadd, 1) := by decide +kernel
theorem dL_law_1043 : decode cL_law 1043 = .ok (.iaload, 1) := by decide +kernel
theorem dL_law_1044 : decode cL_law 1044 = .ok (.aload_n 0, 1) := by decide +kernel
theorem dL_law_1045 : decode cL_law 1045 = .ok (.iload_n 3, 1) := by decide +kernel
theorem dL_law_1046 : decode cL_law 1046 = .ok (.iconst 2, 1) := by decide +kernel
theorem dL_law_1047 : decode cL_law 1047 = .ok (.iadd, 1) := by decide +kernel
theorem dL_law_1048 : decode cL_law 1048 = .ok (.iaload, 1) := by decide +kernel
theorem dL_law_1049 : decode cL_law 1049 = .ok (.invokevirtual 139, 3) := by decide +kernel
theorem dL_law_1052 : decode cL_law 1052 = .ok (.if_icmp .eq 127, 3) := by decide +kernel
theorem dL_law_1057 : decode cL_law 1057 = .ok (.aload_n 1, 1) := by decide +kernel
theorem dL_law_1058 : decode cL_law 1058 = .ok (.aload_n 0, 1) := by decide +kernel
theorem dL_law_1059 : decode cL_law 1059 = .ok (.iload_n 3, 1) := by decide +kernel
theorem dL_law_1060 : decode cL_law 1060 = .ok (.iconst 1, 1) := by decide +kernel
theorem dL_law_1061 : decode cL_law 1061 = .ok (.iadd, 1) := by decide +kernel
theorem dL_law_1062 : decode cL_law 1062 = .ok (.iaload, 1) := by decide +kernel
theorem dL_law_1063 : decode cL_law 1063 = .ok (.aload_n 0, 1) := by decide +kernel
theorem dL_law_1064 : decode cL_law 1064 = .ok (.iload_n 3, 1) := by decide +kernel
theorem dL_law_1065 : decode cL_law 1065 = .ok (.iconst 2, 1) := by decide +kernel
theorem dL_law_1066 : decode cL_law 1066 = .ok (.iadd, 1) := by decide +kernel
theorem dL_law_1067 : decode cL_law 1067 = .ok (.iaload, 1) := by decide +kernel
theorem dL_law_1068 : decode cL_law 1068 = .ok (.invokevirtual 140, 3) := by decide +kernel
theorem dL_law_1071 : decode cL_law 1071 = .ok (.aload_n 2, 1) := by decide +kernel
theorem dL_law_1072 : decode cL_law 1072 = .ok (.aload_n 0, 1) := by decide +kernel
theorem dL_law_1073 : decode cL_law 1073 = .ok (.iload_n 3, 1) := by decide +kernel
theorem dL_law_1074 : decode cL_law 1074 = .ok (.iconst 1, 1) := by decide +kernel
theorem dL_law_1075 : decode cL_law 1075 = .ok (.iadd, 1) := by decide +kernel
theorem dL_law_1076 : decode cL_law 1076 = .ok (.iaload, 1) := by decide +kernel
theorem dL_law_1077 : decode cL_law 1077 = .ok (.aload_n 0, 1) := by decide +kernel
theorem dL_law_1078 : decode cL_law 1078 = .ok (.iload_n 3, 1) := by decide +kernel
theorem dL_law_1079 : decode cL_law 1079 = .ok (.iconst 2, 1) := by decide +kernel
theorem dL_law_1080 : decode cL_law 1080 = .ok (.iadd, 1) := by decide +kernel
theorem dL_law_1081 : decode cL_law 1081 = .ok (.iaload, 1) := by decide +kernel
theorem dL_law_1082 : decode cL_law 1082 = .ok (.invokevirtual 143, 3) := by decide +kernel
theorem dL_law_1085 : decode cL_law 1085 = .ok (.if_icmp .eq 94, 3) := by decide +kernel
theorem dL_law_1090 : decode cL_law 1090 = .ok (.aload_n 1, 1) := by decide +kernel
theorem dL_law_1091 : decode cL_law 1091 = .ok (.aload_n 0, 1) := by decide +kernel
theorem dL_law_1092 : decode cL_law 1092 = .ok (.iload_n 3, 1) := by decide +kernel
theorem dL_law_1093 : decode cL_law 1093 = .ok (.iconst 1, 1) := by decide +kernel
theorem dL_law_1094 : decode cL_law 1094 = .ok (.iadd, 1) := by decide +kernel
theorem dL_law_1095 : decode cL_law 1095 = .ok (.iaload, 1) := by decide +kernel
theorem dL_law_1096 : decode cL_law 1096 = .ok (.aload_n 0, 1) := by decide +kernel
theorem dL_law_1097 : decode cL_law 1097 = .ok (.iload_n 3, 1) := by decide +kernel
theorem dL_law_1098 : decode cL_law 1098 = .ok (.iconst 2, 1) := by decide +kernel
theorem dL_law_1099 : decode cL_law 1099 = .ok (.iadd, 1) := by decide +kernel
theorem dL_law_1100 : decode cL_law 1100 = .ok (.iaload, 1) := by decide +kernel
theorem dL_law_1101 : decode cL_law 1101 = .ok (.invokevirtual 144, 3) := by decide +kernel
theorem dL_law_1104 : decode cL_law 1104 = .ok (.aload_n 2, 1) := by decide +kernel
theorem dL_law_1105 : decode cL_law 1105 = .ok (.aload_n 0, 1) := by decide +kernel
theorem dL_law_1106 : decode cL_law 1106 = .ok (.iload_n 3, 1) := by decide +kernel
theorem dL_law_1107 : decode cL_law 1107 = .ok (.iconst 1, 1) := by decide +kernel
theorem dL_law_1108 : decode cL_law 1108 = .ok (.iadd, 1) := by decide +kernel
theorem dL_law_1109 : decode cL_law 1109 = .ok (.iaload, 1) := by decide +kernel
theorem dL_law_1110 : decode cL_law 1110 = .ok (.aload_n 0, 1) := by decide +kernel
theorem dL_law_1111 : decode cL_law 1111 = .ok (.iload_n 3, 1) := by decide +kernel
theorem dL_law_1112 : decode cL_law 1112 = .ok (.iconst 2, 1) := by decide +kernel
theorem dL_law_1113 : decode cL_law 1113 = .ok (.iadd, 1) := by decide +kernel
theorem dL_law_1114 : decode cL_law 1114 = .ok (.iaload, 1) := by decide +kernel
theorem dL_law_1115 : decode cL_law 1115 = .ok (.invokevirtual 147, 3) := by decide +kernel
theorem dL_law_1118 : decode cL_law 1118 = .ok (.if_icmp .eq 61, 3) := by decide +kernel
theorem dL_law_1123 : decode cL_law 1123 = .ok (.aload_n 1, 1) := by decide +kernel
theorem dL_law_1124 : decode cL_law 1124 = .ok (.aload_n 0, 1) := by decide +kernel
theorem dL_law_1125 : decode cL_law 1125 = .ok (.iload_n 3, 1) := by decide +kernel
theorem dL_law_1126 : decode cL_law 1126 = .ok (.iconst 1, 1) := by decide +kernel
theorem dL_law_1127 : decode cL_law 1127 = .ok (.iadd, 1) := by decide +kernel
theorem dL_law_1128 : decode cL_law 1128 = .ok (.iaload, 1) := by decide +kernel
theorem dL_law_1129 : decode cL_law 1129 = .ok (.aload_n 0, 1) := by decide +kernel
theorem dL_law_1130 : decode cL_law 1130 = .ok (.iload_n 3, 1) := by decide +kernel
theorem dL_law_1131 : decode cL_law 1131 = .ok (.iconst 2, 1) := by decide +kernel
theorem dL_law_1132 : decode cL_law 1132 = .ok (.iadd, 1) := by decide +kernel
theorem dL_law_1133 : decode cL_law 1133 = .ok (.iaload, 1) := by decide +kernel
theorem dL_law_1134 : decode cL_law 1134 = .ok (.invokevirtual 148, 3) := by decide +kernel
theorem dL_law_1137 : decode cL_law 1137 = .ok (.aload_n 2, 1) := by decide +kernel
theorem dL_law_1138 : decode cL_law 1138 = .ok (.aload_n 0, 1) := by decide +kernel
theorem dL_law_1139 : decode cL_law 1139 = .ok (.iload_n 3, 1) := by decide +kernel
theorem dL_law_1140 : decode cL_law 1140 = .ok (.iconst 1, 1) := by decide +kernel
theorem dL_law_1141 : decode cL_law 1141 = .ok (.iadd, 1) := by decide +kernel
theorem dL_law_1142 : decode cL_law 1142 = .ok (.iaload, 1) := by decide +kernel
theorem dL_law_1143 : decode cL_law 1143 = .ok (.aload_n 0, 1) := by decide +kernel
theorem dL_law_1144 : decode cL_law 1144 = .ok (.iload_n 3, 1) := by decide +kernel
theorem dL_law_1145 : decode cL_law 1145 = .ok (.iconst 2, 1) := by decide +kernel
theorem dL_law_1146 : decode cL_law 1146 = .ok (.iadd, 1) := by decide +kernel
theorem dL_law_1147 : decode cL_law 1147 = .ok (.iaload, 1) := by decide +kernel
theorem dL_law_1148 : decode cL_law 1148 = .ok (.invokevirtual 151, 3) := by decide +kernel
theorem dL_law_1151 : decode cL_law 1151 = .ok (.if_icmp .eq 28, 3) := by decide +kernel
theorem dL_law_1156 : decode cL_law 1156 = .ok (.aload_n 1, 1) := by decide +kernel
theorem dL_law_1157 : decode cL_law 1157 = .ok (.aload_n 0, 1) := by decide +kernel
theorem dL_law_1158 : decode cL_law 1158 = .ok (.iload_n 3, 1) := by decide +kernel
theorem dL_law_1159 : decode cL_law 1159 = .ok (.iconst 1, 1) := by decide +kernel
theorem dL_law_1160 : decode cL_law 1160 = .ok (.iadd, 1) := by decide +kernel
theorem dL_law_1161 : decode cL_law 1161 = .ok (.iaload, 1) := by decide +kernel
theorem dL_law_1162 : decode cL_law 1162 = .ok (.invokevirtual 152, 3) := by decide +kernel
theorem dL_law_1165 : decode cL_law 1165 = .ok (.aload_n 2, 1) := by decide +kernel
theorem dL_law_1166 : decode cL_law 1166 = .ok (.aload_n 0, 1) := by decide +kernel
theorem dL_law_1167 : decode cL_law 1167 = .ok (.iload_n 3, 1) := by decide +kernel
theorem dL_law_1168 : decode cL_law 1168 = .ok (.iconst 1, 1) := by decide +kernel
theorem dL_law_1169 : decode cL_law 1169 = .ok (.iadd, 1) := by decide +kernel
theorem dL_law_1170 : decode cL_law 1170 = .ok (.iaload, 1) := by decide +kernel
theorem dL_law_1171 : decode cL_law 1171 = .ok (.invokevirtual 155, 3) := by decide +kernel
theorem dL_law_1174 : decode cL_law 1174 = .ok (.if_icmp .eq 5, 3) := by decide +kernel
theorem dL_law_1179 : decode cL_law 1179 = .ok (.iinc 3 6, 3) := by decide +kernel
theorem dL_law_1182 : decode cL_law 1182 = .ok (.goto (-1164), 3) := by decide +kernel
theorem dL_law_1185 : decode cL_law 1185 = .ok (.iconst 1, 1) := by decide +kernel
theorem dL_law_1186 : decode cL_law 1186 = .ok (.ireturn, 1) := by decide +kernel
theorem dX0_find_0 : decode cX0_find 0 = .ok (.aload_n 0, 1) := by decide +kernel
theorem dX0_find_1 : decode cX0_find 1 = .ok (.getfield 21, 3) := by decide +kernel
theorem dX0_find_4 : decode cX0_find 4 = .ok (.ifCond .eq 14, 3) := by decide +kernel
theorem dX0_find_18 : decode cX0_find 18 = .ok (.iconst (-1), 1) := by decide +kernel
theorem dX0_find_19 : decode cX0_find 19 = .ok (.ireturn, 1) := by decide +kernel
theorem dX0_init_0 : decode cX0_init 0 = .ok (.aload_n 0, 1) := by decide +kernel
theorem dX0_init_1 : decode cX0_init 1 = .ok (.invokespecial 3, 3) := by decide +kernel
theorem dX0_init_4 : decode cX0_init 4 = .ok (.aload_n 0, 1) := by decide +kernel
theorem dX0_init_5 : decode cX0_init 5 = .ok (.new 9, 3) := by decide +kernel
theorem dX0_init_8 : decode cX0_init 8 = .ok (.dup, 1) := by decide +kernel
theorem dX0_init_9 : decode cX0_init 9 = .ok (.invokespecial 11, 3) := by decide +kernel
theorem dX0_init_12 : decode cX0_init 12 = .ok (.putfield 12, 3) := by decide +kernel
theorem dX0_init_15 : decode cX0_init 15 = .ok (.aload_n 0, 1) := by decide +kernel
theorem dX0_init_16 : decode cX0_init 16 = .ok (.new 9, 3) := by decide +kernel
theorem dX0_init_19 : decode cX0_init 19 = .ok (.dup, 1) := by decide +kernel
theorem dX0_init_20 : decode cX0_init 20 = .ok (.invokespecial 11, 3) := by decide +kernel
theorem dX0_init_23 : decode cX0_init 23 = .ok (.putfield 18, 3) := by decide +kernel
theorem dX0_init_26 : decode cX0_init 26 = .ok (.return_, 1) := by decide +kernel
theorem dX10_clear_0 : decode cX10_clear 0 = .ok (.aload_n 0, 1) := by decide +kernel
theorem dX10_clear_1 : decode cX10_clear 1 = .ok (.iconst 0, 1) := by decide +kernel
theorem dX10_clear_2 : decode cX10_clear 2 = .ok (.putfield 34, 3) := by decide +kernel
theorem dX10_clear_5 : decode cX10_clear 5 = .ok (.return_, 1) := by decide +kernel
theorem dX10_init_0 : decode cX10_init 0 = .ok (.aload_n 0, 1) := by decide +kernel
theorem dX10_init_1 : decode cX10_init 1 = .ok (.invokespecial 3, 3) := by decide +kernel
theorem dX10_init_4 : decode cX10_init 4 = .ok (.aload_n 0, 1) := by decide +kernel
theorem dX10_init_5 : decode cX10_init 5 = .ok (.bipush 40, 2) := by decide +kernel
theorem dX10_init_7 : decode cX10_init 7 = .ok (.newarray .int, 2) := by decide +kernel
theorem dX10_init_9 : decode cX10_init 9 = .ok (.putfield 9, 3) := by decide +kernel
theorem dX10_init_12 : decode cX10_init 12 = .ok (.aload_n 0, 1) := by decide +kernel
theorem dX10_init_13 : decode cX10_init 13 = .ok (.bipush 40, 2) := by decide +kernel
theorem dX10_init_15 : decode cX10_init 15 = .ok (.newarray .int, 2) := by decide +kernel
theorem dX10_init_17 : decode cX10_init 17 = .ok (.putfield 15, 3) := by decide +kernel
theorem dX10_init_20 : decode cX10_init 20 = .ok (.aload_n 0, 1) := by decide +kernel
theorem dX10_init_21 : decode cX10_init 21 = .ok (.bipush 40, 2) := by decide +kernel
theorem dX10_init_23 : decode cX10_init 23 = .ok (.newarray .int, 2) := by decide +kernel
theorem dX10_init_25 : decode cX10_init 25 = .ok (.putfield 18, 3) := by decide +kernel
theorem dX10_init_28 : decode cX10_init 28 = .ok (.aload_n 0, 1) := by decide +kernel
theorem dX10_init_29 : decode cX10_init 29 = .ok (.bipush 40, 2) := by decide +kernel
theorem dX10_init_31 : decode cX10_init 31 = .ok (.newarray .int, 2) := by decide +kernel
theorem dX10_init_33 : decode cX10_init 33 = .ok (.putfield 21, 3) := by decide +kernel
theorem dX10_init_36 : decode cX10_init 36 = .ok (.aload_n 0, 1) := by decide +kernel
theorem dX10_init_37 : decode cX10_init 37 = .ok (.bipush 40, 2) := by decide +kernel
theorem dX10_init_39 : decode cX10_init 39 = .ok (.newarray .int, 2) := by decide +kernel
theorem dX10_init_41 : decode cX10_init 41 = .ok (.putfield 24, 3) := by decide +kernel
theorem dX10_init_44 : decode cX10_init 44 = .ok (.aload_n 0, 1) := by decide +kernel
theorem dX10_init_45 : decode cX10_init 45 = .ok (.bipush 40, 2) := by decide +kernel
theorem dX10_init_47 : decode cX10_init 47 = .ok (.newarray .long, 2) := by decide +kernel
theorem dX10_init_49 : decode cX10_init 49 = .ok (.putfield 27, 3) := by decide +kernel
theorem dX10_init_52 : decode cX10_init 52 = .ok (.aload_n 0, 1) := by decide +kernel
theorem dX10_init_53 : decode cX10_init 53 = .ok (.bipush 40, 2) := by decide +kernel
theorem dX10_init_55 : decode cX10_init 55 = .ok (.newarray .int, 2) := by decide +kernel
theorem dX10_init_57 : decode cX10_init 57 = .ok (.putfield 31, 3) := by decide +kernel
theorem dX10_init_60 : decode cX10_init 60 = .ok (.return_, 1) := by decide +kernel
theorem dX10_readFrom_0 : decode cX10_readFrom 0 = .ok (.aload_n 0, 1) := by decide +kernel
theorem dX10_readFrom_1 : decode cX10_readFrom 1 = .ok (.invokevirtual 42, 3) := by decide +kernel
theorem dX10_readFrom_4 : decode cX10_readFrom 4 = .ok (.aload_n 1, 1) := by decide +kernel
theorem dX10_readFrom_5 : decode cX10_readFrom 5 = .ok (.invokevirtual 45, 3) := by decide +kernel
theorem dX10_readFrom_8 : decode cX10_readFrom 8 = .ok (.aload_n 1, 1) := by decide +kernel
theorem dX10_readFrom_9 : decode cX10_readFrom 9 = .ok (.invokevirtual 50, 3) := by decide +kernel
theorem dX10_readFrom_12 : decode cX10_readFrom 12 = .ok (.iconst 1, 1) := by decide +kernel
theorem dX10_readFrom_13 : decode cX10_readFrom 13 = .ok (.istore_n 3, 1) := by decide +kernel
theorem dX10_readFrom_14 : decode cX10_readFrom 14 = .ok (.iconst (-1), 1) := by decide +kernel
theorem dX10_readFrom_15 : decode cX10_readFrom 15 = .ok (.istore 4, 2) := by decide +kernel
theorem dX10_readFrom_17 : decode cX10_readFrom 17 = .ok (.iconst 0, 1) := by decide +kernel
theorem dX10_readFrom_18 : decode cX10_readFrom 18 = .ok (.istore 5, 2) := by decide +kernel
theorem dX10_readFrom_20 : decode cX10_readFrom 20 = .ok (.iload 5, 2) := by decide +kernel
theorem dX10_readFrom_22 : decode cX10_readFrom 22 = .ok (.bipush 24, 2) := by decide +kernel
theorem dX10_readFrom_24 : decode cX10_readFrom 24 = .ok (.if_icmp .gt 192, 3) := by decide +kernel
theorem dX10_readFrom_27 : decode cX10_readFrom 27 = .ok (.aload_n 2, 1) := by decide +kernel
theorem dX10_readFrom_28 : decode cX10_readFrom 28 = .ok (.aload_n 1, 1) := by decide +kernel
theorem dX10_readFrom_29 : decode cX10_readFrom 29 = .ok (.invokevirtual 53, 3) := by decide +kernel
theorem dX10_readFrom_32 : decode cX10_readFrom 32 = .ok (.istore 6, 2) := by decide +kernel
theorem dX10_readFrom_34 : decode cX10_readFrom 34 = .ok (.aload_n 1, 1) := by decide +kernel
theorem dX10_readFrom_35 : decode cX10_readFrom 35 = .ok (.getfield 59, 3) := by decide +kernel
theorem dX10_readFrom_38 : decode cX10_readFrom 38 = .ok (.iconst 1, 1) := by decide +kernel
theorem dX10_readFrom_39 : decode cX10_readFrom 39 = .ok (.if_icmp .ne 18, 3) := by decide +kernel
theorem dX10_readFrom_57 : decode cX10_readFrom 57 = .ok (.aload_n 1, 1) := by decide +kernel
theorem dX10_readFrom_58 : decode cX10_readFrom 58 = .ok (.getfield 62, 3) := by decide +kernel
theorem dX10_readFrom_61 : decode cX10_readFrom 61 = .ok (.ireturn, 1) := by decide +kernel
theorem dX11_back_0 : decode cX11_back 0 = .ok (.aload_n 0, 1) := by decide +kernel
theorem dX11_back_1 : decode cX11_back 1 = .ok (.getfield 53, 3) := by decide +kernel
theorem dX11_back_4 : decode cX11_back 4 = .ok (.iload_n 1, 1) := by decide +kernel
theorem dX11_back_5 : decode cX11_back 5 = .ok (.invokevirtual 266, 3) := by decide +kernel
theorem dX11_back_8 : decode cX11_back 8 = .ok (.istore_n 3, 1) := by decide +kernel
theorem dX11_back_9 : decode cX11_back 9 = .ok (.iload_n 3, 1) := by decide +kernel
theorem dX11_back_10 : decode cX11_back 10 = .ok (.iconst (-1), 1) := by decide +kernel
theorem dX11_back_11 : decode cX11_back 11 = .ok (.if_icmp .eq 30, 3) := by decide +kernel
theorem dX11_back_41 : decode cX11_back 41 = .ok (.iconst (-1), 1) := by decide +kernel
theorem dX11_back_42 : decode cX11_back 42 = .ok (.ireturn, 1) := by decide +kernel
theorem dX11_base_0 : decode cX11_base 0 = .ok (.aload_n 0, 1) := by decide +kernel
theorem dX11_base_1 : decode cX11_base 1 = .ok (.iload_n 1, 1) := by decide +kernel
theorem dX11_base_2 : decode cX11_base 2 = .ok (.iload_n 2, 1) := by decide +kernel
theorem dX11_base_3 : decode cX11_base 3 = .ok (.invokevirtual 255, 3) := by decide +kernel
theorem dX11_base_6 : decode cX11_base 6 = .ok (.ireturn, 1) := by decide +kernel
theorem dX11_begin_0 : decode cX11_begin 0 = .ok (.aload_n 0, 1) := by decide +kernel
theorem dX11_begin_1 : decode cX11_begin 1 = .ok (.getfield 53, 3) := by decide +kernel
theorem dX11_begin_4 : decode cX11_begin 4 = .ok (.iload_n 1, 1) := by decide +kernel
theorem dX11_begin_5 : decode cX11_begin 5 = .ok (.invokevirtual 168, 3) := by decide +kernel
theorem dX11_begin_8 : decode cX11_begin 8 = .ok (.astore_n 2, 1) := by decide +kernel
theorem dX11_begin_9 : decode cX11_begin 9 = .ok (.aload_n 0, 1) := by decide +kernel
theorem dX11_begin_10 : decode cX11_begin 10 = .ok (.getfield 60, 3) := by decide +kernel
theorem dX11_begin_13 : decode cX11_begin 13 = .ok (.getfield 208, 3) := by decide +kernel
theorem dX11_begin_16 : decode cX11_begin 16 = .ok (.ifCond .ne 7, 3) := by decide +kernel
theorem dX11_begin_19 : decode cX11_begin 19 = .ok (.aload_n 2, 1) := by decide +kernel
theorem dX11_begin_20 : decode cX11_begin 20 = .ok (.ifnonnull 5, 3) := by decide +kernel
theorem dX11_begin_23 : decode cX11_begin 23 = .ok (.iconst 0, 1) := by decide +kernel
theorem dX11_begin_24 : decode cX11_begin 24 = .ok (.ireturn, 1) := by decide +kernel
theorem dX11_breaks_0 : decode cX11_breaks 0 = .ok (.aload_n 0, 1) := by decide +kernel
theorem dX11_breaks_1 : decode cX11_breaks 1 = .ok (.invokevirtual 113, 3) := by decide +kernel
theorem dX11_breaks_4 : decode cX11_breaks 4 = .ok (.iconst (-1), 1) := by decide +kernel
theorem dX11_breaks_5 : decode cX11_breaks 5 = .ok (.if_icmp .ne 21, 3) := by decide +kernel
theorem dX11_breaks_26 : decode cX11_breaks 26 = .ok (.iconst (-1), 1) := by decide +kernel
theorem dX11_breaks_27 : decode cX11_breaks 27 = .ok (.ireturn, 1) := by decide +kernel
theorem dX11_carry_0 : decode cX11_carry 0 = .ok (.aload_n 0, 1) := by decide +kernel
theorem dX11_carry_1 : decode cX11_carry 1 = .ok (.getfield 53, 3) := by decide +kernel
theorem dX11_carry_4 : decode cX11_carry 4 = .ok (.iload_n 1, 1) := by decide +kernel
theorem dX11_carry_5 : decode cX11_carry 5 = .ok (.invokevirtual 266, 3) := by decide +kernel
theorem dX11_carry_8 : decode cX11_carry 8 = .ok (.istore_n 3, 1) := by decide +kernel
theorem dX11_carry_9 : decode cX11_carry 9 = .ok (.iload_n 3, 1) := by decide +kernel
theorem dX11_carry_10 : decode cX11_carry 10 = .ok (.iconst (-1), 1) := by decide +kernel
theorem dX11_carry_11 : decode cX11_carry 11 = .ok (.if_icmp .eq 25, 3) := by decide +kernel
theorem dX11_carry_36 : decode cX11_carry 36 = .ok (.iconst (-1), 1) := by decide +kernel
theorem dX11_carry_37 : decode cX11_carry 37 = .ok (.ireturn, 1) := by decide +kernel
theorem dX11_close_0 : decode cX11_close 0 = .ok (.aload_n 0, 1) := by decide +kernel
theorem dX11_close_1 : decode cX11_close 1 = .ok (.getfield 60, 3) := by decide +kernel
theorem dX11_close_4 : decode cX11_close 4 = .ok (.getfield 208, 3) := by decide +kernel
theorem dX11_close_7 : decode cX11_close 7 = .ok (.ifCond .eq 35, 3) := by decide +kernel
theorem dX11_close_42 : decode cX11_close 42 = .ok (.iconst (-1), 1) := by decide +kernel
theorem dX11_close_43 : decode cX11_close 43 = .ok (.ireturn, 1) := by decide +kernel
theorem dX11_count_0 : decode cX11_count 0 = .ok (.iload_n 1, 1) := by decide +kernel
theorem dX11_count_1 : decode cX11_count 1 = .ok (.tableswitch 92 0 5 #[39, 47, 55, 60, 68, 84], 39) := by decide +kernel
theorem dX11_count_40 : decode cX11_count 40 = .ok (.aload_n 0, 1) := by decide +kernel
theorem dX11_count_41 : decode cX11_count 41 = .ok (.getfield 19, 3) := by decide +kernel
theorem dX11_count_44 : decode cX11_count 44 = .ok (.getfield 121, 3) := by decide +kernel
theorem dX11_count_47 : decode cX11_count 47 = .ok (.ireturn, 1) := by decide +kernel
theorem dX11_count_48 : decode cX11_count 48 = .ok (.aload_n 0, 1) := by decide +kernel
theorem dX11_count_49 : decode cX11_count 49 = .ok (.getfield 53, 3) := by decide +kernel
theorem dX11_count_52 : decode cX11_count 52 = .ok (.getfield 187, 3) := by decide +kernel
theorem dX11_count_55 : decode cX11_count 55 = .ok (.ireturn, 1) := by decide +kernel
theorem dX11_count_56 : decode cX11_count 56 = .ok (.aload_n 0, 1) := by decide +kernel
theorem dX11_count_57 : decode cX11_count 57 = .ok (.getfield 181, 3) := by decide +kernel
theorem dX11_count_60 : decode cX11_count 60 = .ok (.ireturn, 1) := by decide +kernel
theorem dX11_count_61 : decode cX11_count 61 = .ok (.aload_n 0, 1) := by decide +kernel
theorem dX11_count_62 : decode cX11_count 62 = .ok (.getfield 12, 3) := by decide +kernel
theorem dX11_count_65 : decode cX11_count 65 = .ok (.getfield 109, 3) := by decide +kernel
theorem dX11_count_68 : decode cX11_count 68 = .ok (.ireturn, 1) := by decide +kernel
theorem dX11_count_69 : decode cX11_count 69 = .ok (.aload_n 0, 1) := by decide +kernel
theorem dX11_count_70 : decode cX11_count 70 = .ok (.getfield 60, 3) := by decide +kernel
theorem dX11_count_73 : decode cX11_count 73 = .ok (.getfield 208, 3) := by decide +kernel
theorem dX11_count_76 : decode cX11_count 76 = .ok (.ifCond .eq 7, 3) := by decide +kernel
theorem dX11_count_83 : decode cX11_count 83 = .ok (.iconst 0, 1) := by decide +kernel
theorem dX11_count_84 : decode cX11_count 84 = .ok (.ireturn, 1) := by decide +kernel
theorem dX11_count_85 : decode cX11_count 85 = .ok (.aload_n 0, 1) := by decide +kernel
theorem dX11_count_86 : decode cX11_count 86 = .ok (.getfield 67, 3) := by decide +kernel
theorem dX11_count_89 : decode cX11_count 89 = .ok (.getfield 316, 3) := by decide +kernel
theorem dX11_count_92 : decode cX11_count 92 = .ok (.ireturn, 1) := by decide +kernel
theorem dX11_count_93 : decode cX11_count 93 = .ok (.iconst (-1), 1) := by decide +kernel
theorem dX11_count_94 : decode cX11_count 94 = .ok (.ireturn, 1) := by decide +kernel
theorem dX11_drop_0 : decode cX11_drop 0 = .ok (.aload_n 0, 1) := by decide +kernel
theorem dX11_drop_1 : decode cX11_drop 1 = .ok (.getfield 60, 3) := by decide +kernel
theorem dX11_drop_4 : decode cX11_drop 4 = .ok (.getfield 208, 3) := by decide +kernel
theorem dX11_drop_7 : decode cX11_drop 7 = .ok (.ifCond .ne 5, 3) := by decide +kernel
theorem dX11_drop_10 : decode cX11_drop 10 = .ok (.iconst 0, 1) := by decide +kernel
theorem dX11_drop_11 : decode cX11_drop 11 = .ok (.ireturn, 1) := by decide +kernel
theorem dX11_editionOrDraft_0 : decode cX11_editionOrDraft 0 = .ok (.iload_n 1, 1) := by decide +kernel
theorem dX11_editionOrDraft_1 : decode cX11_editionOrDraft 1 = .ok (.bipush 12, 2) := by decide +kernel
theorem dX11_editionOrDraft_3 : decode cX11_editionOrDraft 3 = .ok (.if_icmp .ne 25, 3) := by decide +kernel
theorem dX11_editionOrDraft_6 : decode cX11_editionOrDraft 6 = .ok (.aload_n 0, 1) := by decide +kernel
theorem dX11_editionOrDraft_7 : decode cX11_editionOrDraft 7 = .ok (.getfield 60, 3) := by decide +kernel
theorem dX11_editionOrDraft_10 : decode cX11_editionOrDraft 10 = .ok (.getfield 208, 3) := by decide +kernel
theorem dX11_editionOrDraft_13 : decode cX11_editionOrDraft 13 = .ok (.ifCond .eq 13, 3) := by decide +kernel
theorem dX11_editionOrDraft_26 : decode cX11_editionOrDraft 26 = .ok (.aconst_null, 1) := by decide +kernel
theorem dX11_editionOrDraft_27 : decode cX11_editionOrDraft 27 = .ok (.areturn, 1) := by decide +kernel
theorem dX11_editionOrDraft_28 : decode cX11_editionOrDraft 28 = .ok (.aload_n 0, 1) := by decide +kernel
theorem dX11_editionOrDraft_29 : decode cX11_editionOrDraft 29 = .ok (.getfield 53, 3) := by decide +kernel
theorem dX11_editionOrDraft_32 : decode cX11_editionOrDraft 32 = .ok (.iload_n 1, 1) := by decide +kernel
theorem dX11_editionOrDraft_33 : decode cX11_editionOrDraft 33 = .ok (.invokevirtual 168, 3) := by decide +kernel
theorem dX11_editionOrDraft_36 : decode cX11_editionOrDraft 36 = .ok (.areturn, 1) := by decide +kernel
theorem dX11_end_0 : decode cX11_end 0 = .ok (.iload_n 1, 1) := by decide +kernel
theorem dX11_end_1 : decode cX11_end 1 = .ok (.ifCond .lt 14, 3) := by decide +kernel
theorem dX11_end_4 : decode cX11_end 4 = .ok (.iload_n 1, 1) := by decide +kernel
theorem dX11_end_5 : decode cX11_end 5 = .ok (.aload_n 0, 1) := by decide +kernel
theorem dX11_end_6 : decode cX11_end 6 = .ok (.getfield 12, 3) := by decide +kernel
theorem dX11_end_9 : decode cX11_end 9 = .ok (.getfield 109, 3) := by decide +kernel
theorem dX11_end_12 : decode cX11_end 12 = .ok (.if_icmp .le 5, 3) := by decide +kernel
theorem dX11_end_15 : decode cX11_end 15 = .ok (.iconst 0, 1) := by decide +kernel
theorem dX11_end_16 : decode cX11_end 16 = .ok (.ireturn, 1) := by decide +kernel
theorem dX11_end_17 : decode cX11_end 17 = .ok (.aload_n 0, 1) := by decide +kernel
theorem dX11_end_18 : decode cX11_end 18 = .ok (.getfield 12, 3) := by decide +kernel
theorem dX11_end_21 : decode cX11_end 21 = .ok (.iload_n 1, 1) := by decide +kernel
theorem dX11_end_22 : decode cX11_end 22 = .ok (.putfield 109, 3) := by decide +kernel
theorem dX11_end_25 : decode cX11_end 25 = .ok (.iconst 1, 1) := by decide +kernel
theorem dX11_end_26 : decode cX11_end 26 = .ok (.ireturn, 1) := by decide +kernel
theorem dX11_fault_0 : decode cX11_fault 0 = .ok (.iload_n 1, 1) := by decide +kernel
theorem dX11_fault_1 : decode cX11_fault 1 = .ok (.ifCond .eq 10, 3) := by decide +kernel
theorem dX11_fault_4 : decode cX11_fault 4 = .ok (.aload_n 0, 1) := by decide +kernel
theorem dX11_fault_5 : decode cX11_fault 5 = .ok (.invokevirtual 113, 3) := by decide +kernel
theorem dX11_fault_8 : decode cX11_fault 8 = .ok (.goto 14, 3) := by decide +kernel
theorem dX11_fault_11 : decode cX11_fault 11 = .ok (.aload_n 0, 1) := by decide +kernel
theorem dX11_fault_12 : decode cX11_fault 12 = .ok (.getfield 23, 3) := by decide +kernel
theorem dX11_fault_15 : decode cX11_fault 15 = .ok (.aload_n 0, 1) := by decide +kernel
theorem dX11_fault_16 : decode cX11_fault 16 = .ok (.getfield 12, 3) := by decide +kernel
theorem dX11_fault_19 : decode cX11_fault 19 = .ok (.invokevirtual 117, 3) := by decide +kernel
theorem dX11_fault_22 : decode cX11_fault 22 = .ok (.ireturn, 1) := by decide +kernel
theorem dX11_feed_0 : decode cX11_feed 0 = .ok (.aload_n 0, 1) := by decide +kernel
theorem dX11_feed_1 : decode cX11_feed 1 = .ok (.getfield 12, 3) := by decide +kernel
theorem dX11_feed_4 : decode cX11_feed 4 = .ok (.bipush 20, 2) := by decide +kernel
theorem dX11_feed_6 : decode cX11_feed 6 = .ok (.invokevirtual 101, 3) := by decide +kernel
theorem dX11_feed_9 : decode cX11_feed 9 = .ok (.ifCond .ne 5, 3) := by decide +kernel
theorem dX11_feed_14 : decode cX11_feed 14 = .ok (.aload_n 0, 1) := by decide +kernel
theorem dX11_feed_15 : decode cX11_feed 15 = .ok (.getfield 12, 3) := by decide +kernel
theorem dX11_feed_18 : decode cX11_feed 18 = .ok (.iload_n 1, 1) := by decide +kernel
theorem dX11_feed_19 : decode cX11_feed 19 = .ok (.invokevirtual 105, 3) := by decide +kernel
theorem dX11_feed_22 : decode cX11_feed 22 = .ok (.aload_n 0, 1) := by decide +kernel
theorem dX11_feed_23 : decode cX11_feed 23 = .ok (.getfield 12, 3) := by decide +kernel
theorem dX11_feed_26 : decode cX11_feed 26 = .ok (.iload_n 2, 1) := by decide +kernel
theorem dX11_feed_27 : decode cX11_feed 27 = .ok (.invokevirtual 105, 3) := by decide +kernel
theorem dX11_feed_30 : decode cX11_feed 30 = .ok (.aload_n 0, 1) := by decide +kernel
theorem dX11_feed_31 : decode cX11_feed 31 = .ok (.getfield 12, 3) := by decide +kernel
theorem dX11_feed_34 : decode cX11_feed 34 = .ok (.iload_n 3, 1) := by decide +kernel
theorem dX11_feed_35 : decode cX11_feed 35 = .ok (.invokevirtual 105, 3) := by decide +kernel
theorem dX11_feed_38 : decode cX11_feed 38 = .ok (.aload_n 0, 1) := by decide +kernel
theorem dX11_feed_39 : decode cX11_feed 39 = .ok (.getfield 12, 3) := by decide +kernel
theorem dX11_feed_42 : decode cX11_feed 42 = .ok (.iload 4, 2) := by decide +kernel
theorem dX11_feed_44 : decode cX11_feed 44 = .ok (.invokevirtual 105, 3) := by decide +kernel
theorem dX11_feed_47 : decode cX11_feed 47 = .ok (.aload_n 0, 1) := by decide +kernel
theorem dX11_feed_48 : decode cX11_feed 48 = .ok (.getfield 12, 3) := by decide +kernel
theorem dX11_feed_51 : decode cX11_feed 51 = .ok (.iload 5, 2) := by decide +kernel
theorem dX11_feed_53 : decode cX11_feed 53 = .ok (.invokevirtual 105, 3) := by decide +kernel
theorem dX11_feed_56 : decode cX11_feed 56 = .ok (.aload_n 0, 1) := by decide +kernel
theorem dX11_feed_57 : decode cX11_feed 57 = .ok (.getfield 12, 3) := by decide +kernel
theorem dX11_feed_60 : decode cX11_feed 60 = .ok (.getfield 109, 3) := by decide +kernel
theorem dX11_feed_63 : decode cX11_feed 63 = .ok (.ireturn, 1) := by decide +kernel
theorem dX11_findBase_0 : decode cX11_findBase 0 = .ok (.aload_n 0, 1) := by decide +kernel
theorem dX11_findBase_1 : decode cX11_findBase 1 = .ok (.getfield 53, 3) := by decide +kernel
theorem dX11_findBase_4 : decode cX11_findBase 4 = .ok (.aload_n 0, 1) := by decide +kernel
theorem dX11_findBase_5 : decode cX11_findBase 5 = .ok (.getfield 53, 3) := by decide +kernel
theorem dX11_findBase_8 : decode cX11_findBase 8 = .ok (.iload_n 1, 1) := by decide +kernel
theorem dX11_findBase_9 : decode cX11_findBase 9 = .ok (.iload_n 2, 1) := by decide +kernel
theorem dX11_findBase_10 : decode cX11_findBase 10 = .ok (.invokevirtual 269, 3) := by decide +kernel
theorem dX11_findBase_13 : decode cX11_findBase 13 = .ok (.invokevirtual 272, 3) := by decide +kernel
theorem dX11_findBase_16 : decode cX11_findBase 16 = .ok (.istore_n 3, 1) := by decide +kernel
theorem dX11_findBase_17 : decode cX11_findBase 17 = .ok (.aload_n 0, 1) := by decide +kernel
theorem dX11_findBase_18 : decode cX11_findBase 18 = .ok (.getfield 53, 3) := by decide +kernel
theorem dX11_findBase_21 : decode cX11_findBase 21 = .ok (.iload_n 3, 1) := by decide +kernel
theorem dX11_findBase_22 : decode cX11_findBase 22 = .ok (.invokevirtual 275, 3) := by decide +kernel
theorem dX11_findBase_25 : decode cX11_findBase 25 = .ok (.istore 4, 2) := by decide +kernel
theorem dX11_findBase_27 : decode cX11_findBase 27 = .ok (.aload_n 0, 1) := by decide +kernel
theorem dX11_findBase_28 : decode cX11_findBase 28 = .ok (.getfield 53, 3) := by decide +kernel
theorem dX11_findBase_31 : decode cX11_findBase 31 = .ok (.iload_n 3, 1) := by decide +kernel
theorem dX11_findBase_32 : decode cX11_findBase 32 = .ok (.iload_n 3, 1) := by decide +kernel
theorem dX11_findBase_33 : decode cX11_findBase 33 = .ok (.iconst 1, 1) := by decide +kernel
theorem dX11_findBase_34 : decode cX11_findBase 34 = .ok (.isub, 1) := by decide +kernel
theorem dX11_findBase_35 : decode cX11_findBase 35 = .ok (.iand, 1) := by decide +kernel
theorem dX11_findBase_36 : decode cX11_findBase 36 = .ok (.invokevirtual 275, 3) := by decide +kernel
theorem dX11_findBase_39 : decode cX11_findBase 39 = .ok (.istore 5, 2) := by decide +kernel
theorem dX11_findBase_41 : decode cX11_findBase 41 = .ok (.iload 5, 2) := by decide +kernel
theorem dX11_findBase_43 : decode cX11_findBase 43 = .ok (.iconst (-1), 1) := by decide +kernel
theorem dX11_findBase_44 : decode cX11_findBase 44 = .ok (.if_icmp .ne 6, 3) := by decide +kernel
theorem dX11_findBase_47 : decode cX11_findBase 47 = .ok (.iload 4, 2) := by decide +kernel
theorem dX11_findBase_49 : decode cX11_findBase 49 = .ok (.ireturn, 1) := by decide +kernel
theorem dX11_first_0 : decode cX11_first 0 = .ok (.aload_n 0, 1) := by decide +kernel
theorem dX11_first_1 : decode cX11_first 1 = .ok (.getfield 53, 3) := by decide +kernel
theorem dX11_first_4 : decode cX11_first 4 = .ok (.invokevirtual 135, 3) := by decide +kernel
theorem dX11_first_7 : decode cX11_first 7 = .ok (.ifCond .ne 10, 3) := by decide +kernel
theorem dX11_first_10 : decode cX11_first 10 = .ok (.aload_n 0, 1) := by decide +kernel
theorem dX11_first_11 : decode cX11_first 11 = .ok (.invokevirtual 139, 3) := by decide +kernel
theorem dX11_first_14 : decode cX11_first 14 = .ok (.ifCond .ne 5, 3) := by decide +kernel
theorem dX11_first_17 : decode cX11_first 17 = .ok (.iconst (-1), 1) := by decide +kernel
theorem dX11_first_18 : decode cX11_first 18 = .ok (.ireturn, 1) := by decide +kernel
theorem dX11_flushLeft_0 : decode cX11_flushLeft 0 = .ok (.lconst 0, 1) := by decide +kernel
theorem dX11_flushLeft_1 : decode cX11_flushLeft 1 = .ok (.lstore_n 2, 1) := by decide +kernel
theorem dX11_flushLeft_2 : decode cX11_flushLeft 2 = .ok (.bipush 56, 2) := by decide +kernel
theorem dX11_flushLeft_4 : decode cX11_flushLeft 4 = .ok (.istore 4, 2) := by decide +kernel
theorem dX11_flushLeft_6 : decode cX11_flushLeft 6 = .ok (.bipush 56, 2) := by decide +kernel
theorem dX11_flushLeft_8 : decode cX11_flushLeft 8 = .ok (.istore 5, 2) := by decide +kernel
theorem dX11_flushLeft_10 : decode cX11_flushLeft 10 = .ok (.iload 5, 2) := by decide +kernel
theorem dX11_flushLeft_12 : decode cX11_flushLeft 12 = .ok (.ifCond .lt 54, 3) := by decide +kernel
theorem dX11_flushLeft_15 : decode cX11_flushLeft 15 = .ok (.lload_n 0, 1) := by decide +kernel
theorem dX11_flushLeft_16 : decode cX11_flushLeft 16 = .ok (.iload 5, 2) := by decide +kernel
theorem dX11_flushLeft_18 : decode cX11_flushLeft 18 = .ok (.lushr, 1) := by decide +kernel
theorem dX11_flushLeft_19 : decode cX11_flushLeft 19 = .ok (.l2i, 1) := by decide +kernel
theorem dX11_flushLeft_20 : decode cX11_flushLeft 20 = .ok (.sipush 255, 3) := by decide +kernel
theorem dX11_flushLeft_23 : decode cX11_flushLeft 23 = .ok (.iand, 1) := by decide +kernel
theorem dX11_flushLeft_24 : decode cX11_flushLeft 24 = .ok (.istore 6, 2) := by decide +kernel
theorem dX11_flushLeft_26 : decode cX11_flushLeft 26 = .ok (.iload 6, 2) := by decide +kernel
theorem dX11_flushLeft_28 : decode cX11_flushLeft 28 = .ok (.ifCond .eq 15, 3) := by decide +kernel
theorem dX11_flushLeft_31 : decode cX11_flushLeft 31 = .ok (.iload 6, 2) := by decide +kernel
theorem dX11_flushLeft_33 : decode cX11_flushLeft 33 = .ok (.invokestatic 370, 3) := by decide +kernel
theorem dX11_flushLeft_36 : decode cX11_flushLeft 36 = .ok (.ifCond .ne 7, 3) := by decide +kernel
theorem dX11_flushLeft_39 : decode cX11_flushLeft 39 = .ok (.ldc2_w 373, 3) := by decide +kernel
theorem dX11_flushLeft_42 : decode cX11_flushLeft 42 = .ok (.lreturn, 1) := by decide +kernel
theorem dX11_flushLeft_43 : decode cX11_flushLeft 43 = .ok (.iload 6, 2) := by decide +kernel
theorem dX11_flushLeft_45 : decode cX11_flushLeft 45 = .ok (.ifCond .eq 15, 3) := by decide +kernel
theorem dX11_flushLeft_48 : decode cX11_flushLeft 48 = .ok (.lload_n 2, 1) := by decide +kernel
theorem dX11_flushLeft_49 : decode cX11_flushLeft 49 = .ok (.iload 6, 2) := by decide +kernel
theorem dX11_flushLeft_51 : decode cX11_flushLeft 51 = .ok (.i2l, 1) := by decide +kernel
theorem dX11_flushLeft_52 : decode cX11_flushLeft 52 = .ok (.iload 4, 2) := by decide +kernel
theorem dX11_flushLeft_54 : decode cX11_flushLeft 54 = .ok (.lshl, 1) := by decide +kernel
theorem dX11_flushLeft_55 : decode cX11_flushLeft 55 = .ok (.lor, 1) := by decide +kernel
theorem dX11_flushLeft_56 : decode cX11_flushLeft 56 = .ok (.lstore_n 2, 1) := by decide +kernel
theorem dX11_flushLeft_57 : decode cX11_flushLeft 57 = .ok (.iinc 4 (-8), 3) := by decide +kernel
theorem dX11_flushLeft_60 : decode cX11_flushLeft 60 = .ok (.iinc 5 (-8), 3) := by decide +kernel
theorem dX11_flushLeft_63 : decode cX11_flushLeft 63 = .ok (.goto (-53), 3) := by decide +kernel
theorem dX11_flushLeft_66 : decode cX11_flushLeft 66 = .ok (.lload_n 2, 1) := by decide +kernel
theorem dX11_flushLeft_67 : decode cX11_flushLeft 67 = .ok (.lreturn, 1) := by decide +kernel
theorem dX11_from_0 : decode cX11_from 0 = .ok (.aload_n 0, 1) := by decide +kernel
theorem dX11_from_1 : decode cX11_from 1 = .ok (.getfield 53, 3) := by decide +kernel
theorem dX11_from_4 : decode cX11_from 4 = .ok (.iload_n 1, 1) := by decide +kernel
theorem dX11_from_5 : decode cX11_from 5 = .ok (.iload_n 2, 1) := by decide +kernel
theorem dX11_from_6 : decode cX11_from 6 = .ok (.invokevirtual 259, 3) := by decide +kernel
theorem dX11_from_9 : decode cX11_from 9 = .ok (.ireturn, 1) := by decide +kernel
theorem dX11_grammar_0 : decode cX11_grammar 0 = .ok (.aload_n 0, 1) := by decide +kernel
theorem dX11_grammar_1 : decode cX11_grammar 1 = .ok (.getfield 19, 3) := by decide +kernel
theorem dX11_grammar_4 : decode cX11_grammar 4 = .ok (.getfield 121, 3) := by decide +kernel
theorem dX11_grammar_7 : decode cX11_grammar 7 = .ok (.ifCond .gt 18, 3) := by decide +kernel
theorem dX11_grammar_10 : decode cX11_grammar 10 = .ok (.aload_n 0, 1) := by decide +kernel
theorem dX11_grammar_11 : decode cX11_grammar 11 = .ok (.getfield 23, 3) := by decide +kernel
theorem dX11_grammar_14 : decode cX11_grammar 14 = .ok (.aload_n 0, 1) := by decide +kernel
theorem dX11_grammar_15 : decode cX11_grammar 15 = .ok (.getfield 12, 3) := by decide +kernel
theorem dX11_grammar_18 : decode cX11_grammar 18 = .ok (.invokevirtual 117, 3) := by decide +kernel
theorem dX11_grammar_21 : decode cX11_grammar 21 = .ok (.iconst (-1), 1) := by decide +kernel
theorem dX11_grammar_22 : decode cX11_grammar 22 = .ok (.if_icmp .eq 5, 3) := by decide +kernel
theorem dX11_grammar_25 : decode cX11_grammar 25 = .ok (.iconst (-1), 1) := by decide +kernel
theorem dX11_grammar_26 : decode cX11_grammar 26 = .ok (.ireturn, 1) := by decide +kernel
theorem dX11_init_0 : decode cX11_init 0 = .ok (.aload_n 0, 1) := by decide +kernel
theorem dX11_init_1 : decode cX11_init 1 = .ok (.invokespecial 3, 3) := by decide +kernel
theorem dX11_init_4 : decode cX11_init 4 = .ok (.aload_n 0, 1) := by decide +kernel
theorem dX11_init_5 : decode cX11_init 5 = .ok (.new 9, 3) := by decide +kernel
theorem dX11_init_8 : decode cX11_init 8 = .ok (.dup, 1) := by decide +kernel
theorem dX11_init_9 : decode cX11_init 9 = .ok (.invokespecial 11, 3) := by decide +kernel
theorem dX11_init_12 : decode cX11_init 12 = .ok (.putfield 12, 3) := by decide +kernel
theorem dX11_init_15 : decode cX11_init 15 = .ok (.aload_n 0, 1) := by decide +kernel
theorem dX11_init_16 : decode cX11_init 16 = .ok (.new 16, 3) := by decide +kernel
theorem dX11_init_19 : decode cX11_init 19 = .ok (.dup, 1) := by decide +kernel
theorem dX11_init_20 : decode cX11_init 20 = .ok (.invokespecial 18, 3) := by decide +kernel
theorem dX11_init_23 : decode cX11_init 23 = .ok (.putfield 19, 3) := by decide +kernel
theorem dX11_init_26 : decode cX11_init 26 = .ok (.aload_n 0, 1) := by decide +kernel
theorem dX11_init_27 : decode cX11_init 27 = .ok (.new 16, 3) := by decide +kernel
theorem dX11_init_30 : decode cX11_init 30 = .ok (.dup, 1) := by decide +kernel
theorem dX11_init_31 : decode cX11_init 31 = .ok (.invokespecial 18, 3) := by decide +kernel
theorem dX11_init_34 : decode cX11_init 34 = .ok (.putfield 23, 3) := by decide +kernel
theorem dX11_init_37 : decode cX11_init 37 = .ok (.aload_n 0, 1) := by decide +kernel
theorem dX11_init_38 : decode cX11_init 38 = .ok (.new 26, 3) := by decide +kernel
theorem dX11_init_41 : decode cX11_init 41 = .ok (.dup, 1) := by decide +kernel
theorem dX11_init_42 : decode cX11_init 42 = .ok (.invokespecial 28, 3) := by decide +kernel
theorem dX11_init_45 : decode cX11_init 45 = .ok (.putfield 29, 3) := by decide +kernel
theorem dX11_init_48 : decode cX11_init 48 = .ok (.aload_n 0, 1) := by decide +kernel
theorem dX11_init_49 : decode cX11_init 49 = .ok (.new 26, 3) := by decide +kernel
theorem dX11_init_52 : decode cX11_init 52 = .ok (.dup, 1) := by decide +kernel
theorem dX11_init_53 : decode cX11_init 53 = .ok (.invokespecial 28, 3) := by decide +kernel
theorem dX11_init_56 : decode cX11_init 56 = .ok (.putfield 33, 3) := by decide +kernel
theorem dX11_init_59 : decode cX11_init 59 = .ok (.aload_n 0, 1) := by decide +kernel
theorem dX11_init_60 : decode cX11_init 60 = .ok (.new 36, 3) := by decide +kernel
theorem dX11_init_63 : decode cX11_init 63 = .ok (.dup, 1) := by decide +kernel
theorem dX11_init_64 : decode cX11_init 64 = .ok (.invokespecial 38, 3) := by decide +kernel
theorem dX11_init_67 : decode cX11_init 67 = .ok (.putfield 39, 3) := by decide +kernel
theorem dX11_init_70 : decode cX11_init 70 = .ok (.aload_n 0, 1) := by decide +kernel
theorem dX11_init_71 : decode cX11_init 71 = .ok (.new 43, 3) := by decide +kernel
theorem dX11_init_74 : decode cX11_init 74 = .ok (.dup, 1) := by decide +kernel
theorem dX11_init_75 : decode cX11_init 75 = .ok (.invokespecial 45, 3) := by decide +kernel
theorem dX11_init_78 : decode cX11_init 78 = .ok (.putfield 46, 3) := by decide +kernel
theorem dX11_init_81 : decode cX11_init 81 = .ok (.aload_n 0, 1) := by decide +kernel
theorem dX11_init_82 : decode cX11_init 82 = .ok (.new 50, 3) := by decide +kernel
theorem dX11_init_85 : decode cX11_init 85 = .ok (.dup, 1) := by decide +kernel
theorem dX11_init_86 : decode cX11_init 86 = .ok (.invokespecial 52, 3) := by decide +kernel
theorem dX11_init_89 : decode cX11_init 89 = .ok (.putfield 53, 3) := by decide +kernel
theorem dX11_init_92 : decode cX11_init 92 = .ok (.aload_n 0, 1) := by decide +kernel
theorem dX11_init_93 : decode cX11_init 93 = .ok (.new 57, 3) := by decide +kernel
theorem dX11_init_96 : decode cX11_init 96 = .ok (.dup, 1) := by decide +kernel
theorem dX11_init_97 : decode cX11_init 97 = .ok (.invokespecial 59, 3) := by decide +kernel
theorem dX11_init_100 : decode cX11_init 100 = .ok (.putfield 60, 3) := by decide +kernel
theorem dX11_init_103 : decode cX11_init 103 = .ok (.aload_n 0, 1) := by decide +kernel
theorem dX11_init_104 : decode cX11_init 104 = .ok (.new 64, 3) := by decide +kernel
theorem dX11_init_107 : decode cX11_init 107 = .ok (.dup, 1) := by decide +kernel
theorem dX11_init_108 : decode cX11_init 108 = .ok (.invokespecial 66, 3) := by decide +kernel
theorem dX11_init_111 : decode cX11_init 111 = .ok (.putfield 67, 3) := by decide +kernel
theorem dX11_init_114 : decode cX11_init 114 = .ok (.aload_n 0, 1) := by decide +kernel
theorem dX11_init_115 : decode cX11_init 115 = .ok (.new 71, 3) := by decide +kernel
theorem dX11_init_118 : decode cX11_init 118 = .ok (.dup, 1) := by decide +kernel
theorem dX11_init_119 : decode cX11_init 119 = .ok (.invokespecial 73, 3) := by decide +kernel
theorem dX11_init_122 : decode cX11_init 122 = .ok (.putfield 74, 3) := by decide +kernel
theorem dX11_init_125 : decode cX11_init 125 = .ok (.aload_n 0, 1) := by decide +kernel
theorem dX11_init_126 : decode cX11_init 126 = .ok (.new 26, 3) := by decide +kernel
theorem dX11_init_129 : decode cX11_init 129 = .ok (.dup, 1) := by decide +kernel
theorem dX11_init_130 : decode cX11_init 130 = .ok (.invokespecial 28, 3) := by decide +kernel
theorem dX11_init_133 : decode cX11_init 133 = .ok (.putfield 78, 3) := by decide +kernel
theorem dX11_init_136 : decode cX11_init 136 = .ok (.aload_n 0, 1) := by decide +kernel
theorem dX11_init_137 : decode cX11_init 137 = .ok (.new 26, 3) := by decide +kernel
theorem dX11_init_140 : decode cX11_init 140 = .ok (.dup, 1) := by decide +kernel
theorem dX11_init_141 : decode cX11_init 141 = .ok (.invokespecial 28, 3) := by decide +kernel
theorem dX11_init_144 : decode cX11_init 144 = .ok (.putfield 81, 3) := by decide +kernel
theorem dX11_init_147 : decode cX11_init 147 = .ok (.aload_n 0, 1) := by decide +kernel
theorem dX11_init_148 : decode cX11_init 148 = .ok (.new 84, 3) := by decide +kernel
theorem dX11_init_151 : decode cX11_init 151 = .ok (.dup, 1) := by decide +kernel
theorem dX11_init_152 : decode cX11_init 152 = .ok (.invokespecial 86, 3) := by decide +kernel
theorem dX11_init_155 : decode cX11_init 155 = .ok (.putfield 87, 3) := by decide +kernel
theorem dX11_init_158 : decode cX11_init 158 = .ok (.aload_n 0, 1) := by decide +kernel
theorem dX11_init_159 : decode cX11_init 159 = .ok (.sipush 150, 3) := by decide +kernel
theorem dX11_init_162 : decode cX11_init 162 = .ok (.newarray .int, 2) := by decide +kernel
theorem dX11_init_164 : decode cX11_init 164 = .ok (.putfield 91, 3) := by decide +kernel
theorem dX11_init_167 : decode cX11_init 167 = .ok (.aload_n 0, 1) := by decide +kernel
theorem dX11_init_168 : decode cX11_init 168 = .ok (.sipush 450, 3) := by decide +kernel
theorem dX11_init_171 : decode cX11_init 171 = .ok (.newarray .int, 2) := by decide +kernel
theorem dX11_init_173 : decode cX11_init 173 = .ok (.putfield 95, 3) := by decide +kernel
theorem dX11_init_176 : decode cX11_init 176 = .ok (.aload_n 0, 1) := by decide +kernel
theorem dX11_init_177 : decode cX11_init 177 = .ok (.bipush 40, 2) := by decide +kernel
theorem dX11_init_179 : decode cX11_init 179 = .ok (.newarray .int, 2) := by decide +kernel
theorem dX11_init_181 : decode cX11_init 181 = .ok (.putfield 98, 3) := by decide +kernel
theorem dX11_init_184 : decode cX11_init 184 = .ok (.return_, 1) := by decide +kernel
theorem dX11_isLetter_0 : decode cX11_isLetter 0 = .ok (.iload_n 0, 1) := by decide +kernel
theorem dX11_isLetter_1 : decode cX11_isLetter 1 = .ok (.bipush 97, 2) := by decide +kernel
theorem dX11_isLetter_3 : decode cX11_isLetter 3 = .ok (.if_icmp .lt 13, 3) := by decide +kernel
theorem dX11_isLetter_6 : decode cX11_isLetter 6 = .ok (.iload_n 0, 1) := by decide +kernel
theorem dX11_isLetter_7 : decode cX11_isLetter 7 = .ok (.bipush 122, 2) := by decide +kernel
theorem dX11_isLetter_9 : decode cX11_isLetter 9 = .ok (.if_icmp .gt 7, 3) := by decide +kernel
theorem dX11_isLetter_12 : decode cX11_isLetter 12 = .ok (.iconst 1, 1) := by decide +kernel
theorem dX11_isLetter_13 : decode cX11_isLetter 13 = .ok (.goto 4, 3) := by decide +kernel
theorem dX11_isLetter_16 : decode cX11_isLetter 16 = .ok (.iconst 0, 1) := by decide +kernel
theorem dX11_isLetter_17 : decode cX11_isLetter 17 = .ok (.ireturn, 1) := by decide +kernel
theorem dX11_isWordByte_0 : decode cX11_isWordByte 0 = .ok (.iload_n 0, 1) := by decide +kernel
theorem dX11_isWordByte_1 : decode cX11_isWordByte 1 = .ok (.invokestatic 367, 3) := by decide +kernel
theorem dX11_isWordByte_4 : decode cX11_isWordByte 4 = .ok (.ifCond .ne 15, 3) := by decide +kernel
theorem dX11_isWordByte_7 : decode cX11_isWordByte 7 = .ok (.iload_n 0, 1) := by decide +kernel
theorem dX11_isWordByte_8 : decode cX11_isWordByte 8 = .ok (.bipush 48, 2) := by decide +kernel
theorem dX11_isWordByte_10 : decode cX11_isWordByte 10 = .ok (.if_icmp .lt 13, 3) := by decide +kernel
theorem dX11_isWordByte_13 : decode cX11_isWordByte 13 = .ok (.iload_n 0, 1) := by decide +kernel
theorem dX11_isWordByte_14 : decode cX11_isWordByte 14 = .ok (.bipush 57, 2) := by decide +kernel
theorem dX11_isWordByte_16 : decode cX11_isWordByte 16 = .ok (.if_icmp .gt 7, 3) := by decide +kernel
theorem dX11_isWordByte_19 : decode cX11_isWordByte 19 = .ok (.iconst 1, 1) := by decide +kernel
theorem dX11_isWordByte_20 : decode cX11_isWordByte 20 = .ok (.goto 4, 3) := by decide +kernel
theorem dX11_isWordByte_23 : decode cX11_isWordByte 23 = .ok (.iconst 0, 1) := by decide +kernel
theorem dX11_isWordByte_24 : decode cX11_isWordByte 24 = .ok (.ireturn, 1) := by decide +kernel
theorem dX11_match_0 : decode cX11_match 0 = .ok (.aload_n 0, 1) := by decide +kernel
theorem dX11_match_1 : decode cX11_match 1 = .ok (.iload_n 1, 1) := by decide +kernel
theorem dX11_match_2 : decode cX11_match 2 = .ok (.invokevirtual 149, 3) := by decide +kernel
theorem dX11_match_5 : decode cX11_match 5 = .ok (.ifCond .ne 5, 3) := by decide +kernel
theorem dX11_match_8 : decode cX11_match 8 = .ok (.iconst (-1), 1) := by decide +kernel
theorem dX11_match_9 : decode cX11_match 9 = .ok (.ireturn, 1) := by decide +kernel
theorem dX11_matchText_0 : decode cX11_matchText 0 = .ok (.aload_n 0, 1) := by decide +kernel
theorem dX11_matchText_1 : decode cX11_matchText 1 = .ok (.getfield 53, 3) := by decide +kernel
theorem dX11_matchText_4 : decode cX11_matchText 4 = .ok (.iload_n 1, 1) := by decide +kernel
theorem dX11_matchText_5 : decode cX11_matchText 5 = .ok (.invokevirtual 168, 3) := by decide +kernel
theorem dX11_matchText_8 : decode cX11_matchText 8 = .ok (.astore_n 2, 1) := by decide +kernel
theorem dX11_matchText_9 : decode cX11_matchText 9 = .ok (.aload_n 2, 1) := by decide +kernel
theorem dX11_matchText_10 : decode cX11_matchText 10 = .ok (.ifnull 33, 3) := by decide +kernel
theorem dX11_matchText_43 : decode cX11_matchText 43 = .ok (.iconst 0, 1) := by decide +kernel
theorem dX11_matchText_44 : decode cX11_matchText 44 = .ok (.ireturn, 1) := by decide +kernel
theorem dX11_merge_0 : decode cX11_merge 0 = .ok (.aload_n 0, 1) := by decide +kernel
theorem dX11_merge_1 : decode cX11_merge 1 = .ok (.getfield 53, 3) := by decide +kernel
theorem dX11_merge_4 : decode cX11_merge 4 = .ok (.iload_n 1, 1) := by decide +kernel
theorem dX11_merge_5 : decode cX11_merge 5 = .ok (.iload_n 2, 1) := by decide +kernel
theorem dX11_merge_6 : decode cX11_merge 6 = .ok (.invokevirtual 259, 3) := by decide +kernel
theorem dX11_merge_9 : decode cX11_merge 9 = .ok (.ifCond .eq 5, 3) := by decide +kernel
theorem dX11_merge_14 : decode cX11_merge 14 = .ok (.aload_n 0, 1) := by decide +kernel
theorem dX11_merge_15 : decode cX11_merge 15 = .ok (.getfield 53, 3) := by decide +kernel
theorem dX11_merge_18 : decode cX11_merge 18 = .ok (.iload_n 2, 1) := by decide +kernel
theorem dX11_merge_19 : decode cX11_merge 19 = .ok (.iload_n 1, 1) := by decide +kernel
theorem dX11_merge_20 : decode cX11_merge 20 = .ok (.invokevirtual 259, 3) := by decide +kernel
theorem dX11_merge_23 : decode cX11_merge 23 = .ok (.ifCond .eq 5, 3) := by decide +kernel
theorem dX11_merge_28 : decode cX11_merge 28 = .ok (.aload_n 0, 1) := by decide +kernel
theorem dX11_merge_29 : decode cX11_merge 29 = .ok (.getfield 53, 3) := by decide +kernel
theorem dX11_merge_32 : decode cX11_merge 32 = .ok (.invokevirtual 135, 3) := by decide +kernel
theorem dX11_merge_35 : decode cX11_merge 35 = .ok (.ifCond .eq 5, 3) := by decide +kernel
theorem dX11_merge_40 : decode cX11_merge 40 = .ok (.aload_n 0, 1) := by decide +kernel
theorem dX11_merge_41 : decode cX11_merge 41 = .ok (.iload_n 1, 1) := by decide +kernel
theorem dX11_merge_42 : decode cX11_merge 42 = .ok (.iload_n 2, 1) := by decide +kernel
theorem dX11_merge_43 : decode cX11_merge 43 = .ok (.invokevirtual 255, 3) := by decide +kernel
theorem dX11_merge_46 : decode cX11_merge 46 = .ok (.istore_n 3, 1) := by decide +kernel
theorem dX11_merge_47 : decode cX11_merge 47 = .ok (.iload_n 3, 1) := by decide +kernel
theorem dX11_merge_48 : decode cX11_merge 48 = .ok (.bipush 100, 2) := by decide +kernel
theorem dX11_merge_50 : decode cX11_merge 50 = .ok (.if_icmp .ne 10, 3) := by decide +kernel
theorem dX11_merge_60 : decode cX11_merge 60 = .ok (.aload_n 0, 1) := by decide +kernel
theorem dX11_merge_61 : decode cX11_merge 61 = .ok (.getfield 53, 3) := by decide +kernel
theorem dX11_merge_64 : decode cX11_merge 64 = .ok (.iload_n 3, 1) := by decide +kernel
theorem dX11_merge_65 : decode cX11_merge 65 = .ok (.invokevirtual 168, 3) := by decide +kernel
theorem dX11_merge_68 : decode cX11_merge 68 = .ok (.astore 4, 2) := by decide +kernel
theorem dX11_merge_70 : decode cX11_merge 70 = .ok (.aload_n 0, 1) := by decide +kernel
theorem dX11_merge_71 : decode cX11_merge 71 = .ok (.aload 4, 2) := by decide +kernel
theorem dX11_merge_73 : decode cX11_merge 73 = .ok (.iload_n 1, 1) := by decide +kernel
theorem dX11_merge_74 : decode cX11_merge 74 = .ok (.iload_n 2, 1) := by decide +kernel
theorem dX11_merge_75 : decode cX11_merge 75 = .ok (.iload_n 1, 1) := by decide +kernel
theorem dX11_merge_76 : decode cX11_merge 76 = .ok (.iload_n 2, 1) := by decide +kernel
theorem dX11_merge_77 : decode cX11_merge 77 = .ok (.invokevirtual 262, 3) := by decide +kernel
theorem dX11_merge_80 : decode cX11_merge 80 = .ok (.ireturn, 1) := by decide +kernel
theorem dX11_mergeOn_0 : decode cX11_mergeOn 0 = .ok (.aload_n 1, 1) := by decide +kernel
theorem dX11_mergeOn_1 : decode cX11_mergeOn 1 = .ok (.ifnull 25, 3) := by decide +kernel
theorem dX11_mergeOn_26 : decode cX11_mergeOn 26 = .ok (.iconst (-1), 1) := by decide +kernel
theorem dX11_mergeOn_27 : decode cX11_mergeOn 27 = .ok (.ireturn, 1) := by decide +kernel
theorem dX11_move_0 : decode cX11_move 0 = .ok (.aload_n 0, 1) := by decide +kernel
theorem dX11_move_1 : decode cX11_move 1 = .ok (.getfield 60, 3) := by decide +kernel
theorem dX11_move_4 : decode cX11_move 4 = .ok (.iload_n 1, 1) := by decide +kernel
theorem dX11_move_5 : decode cX11_move 5 = .ok (.invokevirtual 220, 3) := by decide +kernel
theorem dX11_move_8 : decode cX11_move 8 = .ok (.istore 4, 2) := by decide +kernel
theorem dX11_move_10 : decode cX11_move 10 = .ok (.aload_n 0, 1) := by decide +kernel
theorem dX11_move_11 : decode cX11_move 11 = .ok (.getfield 60, 3) := by decide +kernel
theorem dX11_move_14 : decode cX11_move 14 = .ok (.iload_n 2, 1) := by decide +kernel
theorem dX11_move_15 : decode cX11_move 15 = .ok (.invokevirtual 220, 3) := by decide +kernel
theorem dX11_move_18 : decode cX11_move 18 = .ok (.istore 5, 2) := by decide +kernel
theorem dX11_move_20 : decode cX11_move 20 = .ok (.iload 4, 2) := by decide +kernel
theorem dX11_move_22 : decode cX11_move 22 = .ok (.iconst (-1), 1) := by decide +kernel
theorem dX11_move_23 : decode cX11_move 23 = .ok (.if_icmp .eq 31, 3) := by decide +kernel
theorem dX11_move_54 : decode cX11_move 54 = .ok (.iconst 0, 1) := by decide +kernel
theorem dX11_move_55 : decode cX11_move 55 = .ok (.ireturn, 1) := by decide +kernel
theorem dX11_name_0 : decode cX11_name 0 = .ok (.aload_n 0, 1) := by decide +kernel
theorem dX11_name_1 : decode cX11_name 1 = .ok (.getfield 53, 3) := by decide +kernel
theorem dX11_name_4 : decode cX11_name 4 = .ok (.iload_n 1, 1) := by decide +kernel
theorem dX11_name_5 : decode cX11_name 5 = .ok (.invokevirtual 168, 3) := by decide +kernel
theorem dX11_name_8 : decode cX11_name 8 = .ok (.astore_n 2, 1) := by decide +kernel
theorem dX11_name_9 : decode cX11_name 9 = .ok (.aload_n 2, 1) := by decide +kernel
theorem dX11_name_10 : decode cX11_name 10 = .ok (.ifnonnull 7, 3) := by decide +kernel
theorem dX11_name_13 : decode cX11_name 13 = .ok (.iconst (-1), 1) := by decide +kernel
theorem dX11_name_14 : decode cX11_name 14 = .ok (.goto 12, 3) := by decide +kernel
theorem dX11_name_26 : decode cX11_name 26 = .ok (.ireturn, 1) := by decide +kernel
theorem dX11_next_0 : decode cX11_next 0 = .ok (.aload_n 0, 1) := by decide +kernel
theorem dX11_next_1 : decode cX11_next 1 = .ok (.getfield 53, 3) := by decide +kernel
theorem dX11_next_4 : decode cX11_next 4 = .ok (.invokevirtual 135, 3) := by decide +kernel
theorem dX11_next_7 : decode cX11_next 7 = .ok (.ifCond .ne 29, 3) := by decide +kernel
theorem dX11_next_10 : decode cX11_next 10 = .ok (.aload_n 0, 1) := by decide +kernel
theorem dX11_next_11 : decode cX11_next 11 = .ok (.getfield 53, 3) := by decide +kernel
theorem dX11_next_14 : decode cX11_next 14 = .ok (.iload_n 1, 1) := by decide +kernel
theorem dX11_next_15 : decode cX11_next 15 = .ok (.invokevirtual 165, 3) := by decide +kernel
theorem dX11_next_18 : decode cX11_next 18 = .ok (.ifCond .eq 18, 3) := by decide +kernel
theorem dX11_next_36 : decode cX11_next 36 = .ok (.iconst (-1), 1) := by decide +kernel
theorem dX11_next_37 : decode cX11_next 37 = .ok (.ireturn, 1) := by decide +kernel
theorem dX11_node_0 : decode cX11_node 0 = .ok (.aload_n 0, 1) := by decide +kernel
theorem dX11_node_1 : decode cX11_node 1 = .ok (.getfield 53, 3) := by decide +kernel
theorem dX11_node_4 : decode cX11_node 4 = .ok (.iload_n 1, 1) := by decide +kernel
theorem dX11_node_5 : decode cX11_node 5 = .ok (.invokevirtual 168, 3) := by decide +kernel
theorem dX11_node_8 : decode cX11_node 8 = .ok (.astore_n 3, 1) := by decide +kernel
theorem dX11_node_9 : decode cX11_node 9 = .ok (.aload_n 3, 1) := by decide +kernel
theorem dX11_node_10 : decode cX11_node 10 = .ok (.ifnonnull 5, 3) := by decide +kernel
theorem dX11_node_13 : decode cX11_node 13 = .ok (.iconst (-1), 1) := by decide +kernel
theorem dX11_node_14 : decode cX11_node 14 = .ok (.ireturn, 1) := by decide +kernel
theorem dX11_of_0 : decode cX11_of 0 = .ok (.aload_n 0, 1) := by decide +kernel
theorem dX11_of_1 : decode cX11_of 1 = .ok (.iload_n 1, 1) := by decide +kernel
theorem dX11_of_2 : decode cX11_of 2 = .ok (.invokevirtual 320, 3) := by decide +kernel
theorem dX11_of_5 : decode cX11_of 5 = .ok (.astore 4, 2) := by decide +kernel
theorem dX11_of_7 : decode cX11_of 7 = .ok (.aload 4, 2) := by decide +kernel
theorem dX11_of_9 : decode cX11_of 9 = .ok (.ifnonnull 7, 3) := by decide +kernel
theorem dX11_of_12 : decode cX11_of 12 = .ok (.iconst (-1), 1) := by decide +kernel
theorem dX11_of_13 : decode cX11_of 13 = .ok (.goto 9, 3) := by decide +kernel
theorem dX11_of_22 : decode cX11_of 22 = .ok (.istore 5, 2) := by decide +kernel
theorem dX11_of_24 : decode cX11_of 24 = .ok (.iload 5, 2) := by decide +kernel
theorem dX11_of_26 : decode cX11_of 26 = .ok (.iconst (-1), 1) := by decide +kernel
theorem dX11_of_27 : decode cX11_of 27 = .ok (.if_icmp .ne 5, 3) := by decide +kernel
theorem dX11_of_30 : decode cX11_of 30 = .ok (.iconst (-1), 1) := by decide +kernel
theorem dX11_of_31 : decode cX11_of 31 = .ok (.ireturn, 1) := by decide +kernel
theorem dX11_parent_0 : decode cX11_parent 0 = .ok (.aload_n 0, 1) := by decide +kernel
theorem dX11_parent_1 : decode cX11_parent 1 = .ok (.getfield 53, 3) := by decide +kernel
theorem dX11_parent_4 : decode cX11_parent 4 = .ok (.iload_n 1, 1) := by decide +kernel
theorem dX11_parent_5 : decode cX11_parent 5 = .ok (.invokevirtual 165, 3) := by decide +kernel
theorem dX11_parent_8 : decode cX11_parent 8 = .ok (.ifCond .ne 5, 3) := by decide +kernel
theorem dX11_parent_11 : decode cX11_parent 11 = .ok (.iconst (-1), 1) := by decide +kernel
theorem dX11_parent_12 : decode cX11_parent 12 = .ok (.ireturn, 1) := by decide +kernel
theorem dX11_print_0 : decode cX11_print 0 = .ok (.aload_n 0, 1) := by decide +kernel
theorem dX11_print_1 : decode cX11_print 1 = .ok (.getfield 53, 3) := by decide +kernel
theorem dX11_print_4 : decode cX11_print 4 = .ok (.iload_n 1, 1) := by decide +kernel
theorem dX11_print_5 : decode cX11_print 5 = .ok (.invokevirtual 168, 3) := by decide +kernel
theorem dX11_print_8 : decode cX11_print 8 = .ok (.astore_n 3, 1) := by decide +kernel
theorem dX11_print_9 : decode cX11_print 9 = .ok (.aload_n 3, 1) := by decide +kernel
theorem dX11_print_10 : decode cX11_print 10 = .ok (.ifnonnull 5, 3) := by decide +kernel
theorem dX11_print_13 : decode cX11_print 13 = .ok (.iconst (-1), 1) := by decide +kernel
theorem dX11_print_14 : decode cX11_print 14 = .ok (.ireturn, 1) := by decide +kernel
theorem dX11_put_0 : decode cX11_put 0 = .ok (.aload_n 0, 1) := by decide +kernel
theorem dX11_put_1 : decode cX11_put 1 = .ok (.getfield 60, 3) := by decide +kernel
theorem dX11_put_4 : decode cX11_put 4 = .ok (.iload_n 1, 1) := by decide +kernel
theorem dX11_put_5 : decode cX11_put 5 = .ok (.invokevirtual 220, 3) := by decide +kernel
theorem dX11_put_8 : decode cX11_put 8 = .ok (.istore 6, 2) := by decide +kernel
theorem dX11_put_10 : decode cX11_put 10 = .ok (.lload 4, 2) := by decide +kernel
theorem dX11_put_12 : decode cX11_put 12 = .ok (.invokestatic 223, 3) := by decide +kernel
theorem dX11_put_15 : decode cX11_put 15 = .ok (.lstore 7, 2) := by decide +kernel
theorem dX11_put_17 : decode cX11_put 17 = .ok (.iload 6, 2) := by decide +kernel
theorem dX11_put_19 : decode cX11_put 19 = .ok (.iconst (-1), 1) := by decide +kernel
theorem dX11_put_20 : decode cX11_put 20 = .ok (.if_icmp .eq 21, 3) := by decide +kernel
theorem dX11_put_41 : decode cX11_put 41 = .ok (.iconst (-1), 1) := by decide +kernel
theorem dX11_put_42 : decode cX11_put 42 = .ok (.ireturn, 1) := by decide +kernel
theorem dX11_quarrel_0 : decode cX11_quarrel 0 = .ok (.iload_n 1, 1) := by decide +kernel
theorem dX11_quarrel_1 : decode cX11_quarrel 1 = .ok (.iconst (-1), 1) := by decide +kernel
theorem dX11_quarrel_2 : decode cX11_quarrel 2 = .ok (.if_icmp .ne 8, 3) := by decide +kernel
theorem dX11_quarrel_5 : decode cX11_quarrel 5 = .ok (.aload_n 0, 1) := by decide +kernel
theorem dX11_quarrel_6 : decode cX11_quarrel 6 = .ok (.getfield 309, 3) := by decide +kernel
theorem dX11_quarrel_9 : decode cX11_quarrel 9 = .ok (.ireturn, 1) := by decide +kernel
theorem dX11_quarrel_10 : decode cX11_quarrel 10 = .ok (.iload_n 1, 1) := by decide +kernel
theorem dX11_quarrel_11 : decode cX11_quarrel 11 = .ok (.ifCond .lt 20, 3) := by decide +kernel
theorem dX11_quarrel_14 : decode cX11_quarrel 14 = .ok (.iload_n 1, 1) := by decide +kernel
theorem dX11_quarrel_15 : decode cX11_quarrel 15 = .ok (.aload_n 0, 1) := by decide +kernel
theorem dX11_quarrel_16 : decode cX11_quarrel 16 = .ok (.getfield 309, 3) := by decide +kernel
theorem dX11_quarrel_19 : decode cX11_quarrel 19 = .ok (.if_icmp .ge 12, 3) := by decide +kernel
theorem dX11_quarrel_31 : decode cX11_quarrel 31 = .ok (.iconst (-1), 1) := by decide +kernel
theorem dX11_quarrel_32 : decode cX11_quarrel 32 = .ok (.ireturn, 1) := by decide +kernel
theorem dX11_readTree_0 : decode cX11_readTree 0 = .ok (.aload_n 0, 1) := by decide +kernel
theorem dX11_readTree_1 : decode cX11_readTree 1 = .ok (.getfield 29, 3) := by decide +kernel
theorem dX11_readTree_4 : decode cX11_readTree 4 = .ok (.aload_n 0, 1) := by decide +kernel
theorem dX11_readTree_5 : decode cX11_readTree 5 = .ok (.getfield 12, 3) := by decide +kernel
theorem dX11_readTree_8 : decode cX11_readTree 8 = .ok (.aload_n 0, 1) := by decide +kernel
theorem dX11_readTree_9 : decode cX11_readTree 9 = .ok (.getfield 19, 3) := by decide +kernel
theorem dX11_readTree_12 : decode cX11_readTree 12 = .ok (.invokevirtual 128, 3) := by decide +kernel
theorem dX11_readTree_15 : decode cX11_readTree 15 = .ok (.istore_n 1, 1) := by decide +kernel
theorem dX11_readTree_16 : decode cX11_readTree 16 = .ok (.iload_n 1, 1) := by decide +kernel
theorem dX11_readTree_17 : decode cX11_readTree 17 = .ok (.iconst (-1), 1) := by decide +kernel
theorem dX11_readTree_18 : decode cX11_readTree 18 = .ok (.if_icmp .ne 18, 3) := by decide +kernel
theorem dX11_readTree_36 : decode cX11_readTree 36 = .ok (.iload_n 1, 1) := by decide +kernel
theorem dX11_readTree_37 : decode cX11_readTree 37 = .ok (.ireturn, 1) := by decide +kernel
theorem dX11_readsAndFits_0 : decode cX11_readsAndFits 0 = .ok (.aload_n 0, 1) := by decide +kernel
theorem dX11_readsAndFits_1 : decode cX11_readsAndFits 1 = .ok (.invokevirtual 113, 3) := by decide +kernel
theorem dX11_readsAndFits_4 : decode cX11_readsAndFits 4 = .ok (.iconst (-1), 1) := by decide +kernel
theorem dX11_readsAndFits_5 : decode cX11_readsAndFits 5 = .ok (.if_icmp .ne 26, 3) := by decide +kernel
theorem dX11_readsAndFits_31 : decode cX11_readsAndFits 31 = .ok (.iconst 0, 1) := by decide +kernel
theorem dX11_readsAndFits_32 : decode cX11_readsAndFits 32 = .ok (.ireturn, 1) := by decide +kernel
theorem dX11_rename_0 : decode cX11_rename 0 = .ok (.aload_n 0, 1) := by decide +kernel
theorem dX11_rename_1 : decode cX11_rename 1 = .ok (.getfield 60, 3) := by decide +kernel
theorem dX11_rename_4 : decode cX11_rename 4 = .ok (.iload_n 1, 1) := by decide +kernel
theorem dX11_rename_5 : decode cX11_rename 5 = .ok (.invokevirtual 220, 3) := by decide +kernel
theorem dX11_rename_8 : decode cX11_rename 8 = .ok (.istore 4, 2) := by decide +kernel
theorem dX11_rename_10 : decode cX11_rename 10 = .ok (.lload_n 2, 1) := by decide +kernel
theorem dX11_rename_11 : decode cX11_rename 11 = .ok (.invokestatic 223, 3) := by decide +kernel
theorem dX11_rename_14 : decode cX11_rename 14 = .ok (.lstore 5, 2) := by decide +kernel
theorem dX11_rename_16 : decode cX11_rename 16 = .ok (.iload 4, 2) := by decide +kernel
theorem dX11_rename_18 : decode cX11_rename 18 = .ok (.iconst (-1), 1) := by decide +kernel
theorem dX11_rename_19 : decode cX11_rename 19 = .ok (.if_icmp .eq 29, 3) := by decide +kernel
theorem dX11_rename_48 : decode cX11_rename 48 = .ok (.iconst 0, 1) := by decide +kernel
theorem dX11_rename_49 : decode cX11_rename 49 = .ok (.ireturn, 1) := by decide +kernel
theorem dX11_same_0 : decode cX11_same 0 = .ok (.aload_n 0, 1) := by decide +kernel
theorem dX11_same_1 : decode cX11_same 1 = .ok (.getfield 53, 3) := by decide +kernel
theorem dX11_same_4 : decode cX11_same 4 = .ok (.iload_n 1, 1) := by decide +kernel
theorem dX11_same_5 : decode cX11_same 5 = .ok (.invokevirtual 168, 3) := by decide +kernel
theorem dX11_same_8 : decode cX11_same 8 = .ok (.astore_n 3, 1) := by decide +kernel
theorem dX11_same_9 : decode cX11_same 9 = .ok (.aload_n 0, 1) := by decide +kernel
theorem dX11_same_10 : decode cX11_same 10 = .ok (.getfield 53, 3) := by decide +kernel
theorem dX11_same_13 : decode cX11_same 13 = .ok (.iload_n 2, 1) := by decide +kernel
theorem dX11_same_14 : decode cX11_same 14 = .ok (.invokevirtual 168, 3) := by decide +kernel
theorem dX11_same_17 : decode cX11_same 17 = .ok (.astore 4, 2) := by decide +kernel
theorem dX11_same_19 : decode cX11_same 19 = .ok (.aload_n 3, 1) := by decide +kernel
theorem dX11_same_20 : decode cX11_same 20 = .ok (.ifnull 23, 3) := by decide +kernel
theorem dX11_same_43 : decode cX11_same 43 = .ok (.iconst 0, 1) := by decide +kernel
theorem dX11_same_44 : decode cX11_same 44 = .ok (.ireturn, 1) := by decide +kernel
theorem dX11_settle_0 : decode cX11_settle 0 = .ok (.iload_n 1, 1) := by decide +kernel
theorem dX11_settle_1 : decode cX11_settle 1 = .ok (.ifCond .lt 32, 3) := by decide +kernel
theorem dX11_settle_4 : decode cX11_settle 4 = .ok (.iload_n 1, 1) := by decide +kernel
theorem dX11_settle_5 : decode cX11_settle 5 = .ok (.aload_n 0, 1) := by decide +kernel
theorem dX11_settle_6 : decode cX11_settle 6 = .ok (.getfield 181, 3) := by decide +kernel
theorem dX11_settle_9 : decode cX11_settle 9 = .ok (.if_icmp .ge 24, 3) := by decide +kernel
theorem dX11_settle_33 : decode cX11_settle 33 = .ok (.iconst 0, 1) := by decide +kernel
theorem dX11_settle_34 : decode cX11_settle 34 = .ok (.ireturn, 1) := by decide +kernel
theorem dX11_take_0 : decode cX11_take 0 = .ok (.aload_n 0, 1) := by decide +kernel
theorem dX11_take_1 : decode cX11_take 1 = .ok (.getfield 60, 3) := by decide +kernel
theorem dX11_take_4 : decode cX11_take 4 = .ok (.iload_n 1, 1) := by decide +kernel
theorem dX11_take_5 : decode cX11_take 5 = .ok (.invokevirtual 220, 3) := by decide +kernel
theorem dX11_take_8 : decode cX11_take 8 = .ok (.istore_n 2, 1) := by decide +kernel
theorem dX11_take_9 : decode cX11_take 9 = .ok (.iload_n 2, 1) := by decide +kernel
theorem dX11_take_10 : decode cX11_take 10 = .ok (.iconst (-1), 1) := by decide +kernel
theorem dX11_take_11 : decode cX11_take 11 = .ok (.if_icmp .eq 21, 3) := by decide +kernel
theorem dX11_take_32 : decode cX11_take 32 = .ok (.iconst 0, 1) := by decide +kernel
theorem dX11_take_33 : decode cX11_take 33 = .ok (.ireturn, 1) := by decide +kernel
theorem dX11_unsettle_0 : decode cX11_unsettle 0 = .ok (.aload_n 0, 1) := by decide +kernel
theorem dX11_unsettle_1 : decode cX11_unsettle 1 = .ok (.getfield 67, 3) := by decide +kernel
theorem dX11_unsettle_4 : decode cX11_unsettle 4 = .ok (.getfield 316, 3) := by decide +kernel
theorem dX11_unsettle_7 : decode cX11_unsettle 7 = .ok (.istore_n 1, 1) := by decide +kernel
theorem dX11_unsettle_8 : decode cX11_unsettle 8 = .ok (.aload_n 0, 1) := by decide +kernel
theorem dX11_unsettle_9 : decode cX11_unsettle 9 = .ok (.getfield 67, 3) := by decide +kernel
theorem dX11_unsettle_12 : decode cX11_unsettle 12 = .ok (.invokevirtual 317, 3) := by decide +kernel
theorem dX11_unsettle_15 : decode cX11_unsettle 15 = .ok (.iload_n 1, 1) := by decide +kernel
theorem dX11_unsettle_16 : decode cX11_unsettle 16 = .ok (.ireturn, 1) := by decide +kernel
theorem dX11_word_0 : decode cX11_word 0 = .ok (.aload_n 0, 1) := by decide +kernel
theorem dX11_word_1 : decode cX11_word 1 = .ok (.iload_n 1, 1) := by decide +kernel
theorem dX11_word_2 : decode cX11_word 2 = .ok (.invokevirtual 320, 3) := by decide +kernel
theorem dX11_word_5 : decode cX11_word 5 = .ok (.astore_n 3, 1) := by decide +kernel
theorem dX11_word_6 : decode cX11_word 6 = .ok (.aload_n 3, 1) := by decide +kernel
theorem dX11_word_7 : decode cX11_word 7 = .ok (.ifnonnull 7, 3) := by decide +kernel
theorem dX11_word_10 : decode cX11_word 10 = .ok (.iconst (-1), 1) := by decide +kernel
theorem dX11_word_11 : decode cX11_word 11 = .ok (.goto 8, 3) := by decide +kernel
theorem dX11_word_19 : decode cX11_word 19 = .ok (.istore 4, 2) := by decide +kernel
theorem dX11_word_21 : decode cX11_word 21 = .ok (.iload 4, 2) := by decide +kernel
theorem dX11_word_23 : decode cX11_word 23 = .ok (.iconst (-1), 1) := by decide +kernel
theorem dX11_word_24 : decode cX11_word 24 = .ok (.if_icmp .ne 7, 3) := by decide +kernel
theorem dX11_word_27 : decode cX11_word 27 = .ok (.lconst 0, 1) := by decide +kernel
theorem dX11_word_28 : decode cX11_word 28 = .ok (.goto 13, 3) := by decide +kernel
theorem dX11_word_41 : decode cX11_word 41 = .ok (.lreturn, 1) := by decide +kernel
theorem dX11_writer_0 : decode cX11_writer 0 = .ok (.iload_n 1, 1) := by decide +kernel
theorem dX11_writer_1 : decode cX11_writer 1 = .ok (.ifCond .lt 24, 3) := by decide +kernel
theorem dX11_writer_4 : decode cX11_writer 4 = .ok (.iload_n 1, 1) := by decide +kernel
theorem dX11_writer_5 : decode cX11_writer 5 = .ok (.aload_n 0, 1) := by decide +kernel
theorem dX11_writer_6 : decode cX11_writer 6 = .ok (.getfield 181, 3) := by decide +kernel
theorem dX11_writer_9 : decode cX11_writer 9 = .ok (.if_icmp .ge 16, 3) := by decide +kernel
theorem dX11_writer_25 : decode cX11_writer 25 = .ok (.iconst (-1), 1) := by decide +kernel
theorem dX11_writer_26 : decode cX11_writer 26 = .ok (.ireturn, 1) := by decide +kernel
theorem dX12_back_0 : decode cX12_back 0 = .ok (.aload_n 0, 1) := by decide +kernel
theorem dX12_back_1 : decode cX12_back 1 = .ok (.iload_n 1, 1) := by decide +kernel
theorem dX12_back_2 : decode cX12_back 2 = .ok (.invokevirtual 530, 3) := by decide +kernel
theorem dX12_back_5 : decode cX12_back 5 = .ok (.ifCond .eq 34, 3) := by decide +kernel
theorem dX12_back_39 : decode cX12_back 39 = .ok (.iconst (-1), 1) := by decide +kernel
theorem dX12_back_40 : decode cX12_back 40 = .ok (.ireturn, 1) := by decide +kernel
theorem dX12_base_0 : decode cX12_base 0 = .ok (.aload_n 0, 1) := by decide +kernel
theorem dX12_base_1 : decode cX12_base 1 = .ok (.iload_n 1, 1) := by decide +kernel
theorem dX12_base_2 : decode cX12_base 2 = .ok (.invokevirtual 396, 3) := by decide +kernel
theorem dX12_base_5 : decode cX12_base 5 = .ok (.ifCond .eq 11, 3) := by decide +kernel
theorem dX12_base_16 : decode cX12_base 16 = .ok (.iconst (-1), 1) := by decide +kernel
theorem dX12_base_17 : decode cX12_base 17 = .ok (.ireturn, 1) := by decide +kernel
theorem dX12_begin_0 : decode cX12_begin 0 = .ok (.aload_n 0, 1) := by decide +kernel
theorem dX12_begin_1 : decode cX12_begin 1 = .ok (.getfield 407, 3) := by decide +kernel
theorem dX12_begin_4 : decode cX12_begin 4 = .ok (.ifCond .ne 11, 3) := by decide +kernel
theorem dX12_begin_7 : decode cX12_begin 7 = .ok (.aload_n 0, 1) := by decide +kernel
theorem dX12_begin_8 : decode cX12_begin 8 = .ok (.iload_n 1, 1) := by decide +kernel
theorem dX12_begin_9 : decode cX12_begin 9 = .ok (.invokevirtual 396, 3) := by decide +kernel
theorem dX12_begin_12 : decode cX12_begin 12 = .ok (.ifCond .ne 5, 3) := by decide +kernel
theorem dX12_begin_15 : decode cX12_begin 15 = .ok (.iconst 0, 1) := by decide +kernel
theorem dX12_begin_16 : decode cX12_begin 16 = .ok (.ireturn, 1) := by decide +kernel
theorem dX12_breaks_0 : decode cX12_breaks 0 = .ok (.aload_n 0, 1) := by decide +kernel
theorem dX12_breaks_1 : decode cX12_breaks 1 = .ok (.invokevirtual 282, 3) := by decide +kernel
theorem dX12_breaks_4 : decode cX12_breaks 4 = .ok (.aload_n 0, 1) := by decide +kernel
theorem dX12_breaks_5 : decode cX12_breaks 5 = .ok (.getfield 193, 3) := by decide +kernel
theorem dX12_breaks_8 : decode cX12_breaks 8 = .ok (.iconst (-1), 1) := by decide +kernel
theorem dX12_breaks_9 : decode cX12_breaks 9 = .ok (.if_icmp .eq 7, 3) := by decide +kernel
theorem dX12_breaks_12 : decode cX12_breaks 12 = .ok (.iconst (-1), 1) := by decide +kernel
theorem dX12_breaks_13 : decode cX12_breaks 13 = .ok (.goto 9, 3) := by decide +kernel
theorem dX12_breaks_22 : decode cX12_breaks 22 = .ok (.ireturn, 1) := by decide +kernel
theorem dX12_canCome_0 : decode cX12_canCome 0 = .ok (.aload_n 0, 1) := by decide +kernel
theorem dX12_canCome_1 : decode cX12_canCome 1 = .ok (.getfield 251, 3) := by decide +kernel
theorem dX12_canCome_4 : decode cX12_canCome 4 = .ok (.ifCond .eq 12, 3) := by decide +kernel
theorem dX12_canCome_16 : decode cX12_canCome 16 = .ok (.iconst 0, 1) := by decide +kernel
theorem dX12_canCome_17 : decode cX12_canCome 17 = .ok (.ireturn, 1) := by decide +kernel
theorem dX12_carry_0 : decode cX12_carry 0 = .ok (.aload_n 0, 1) := by decide +kernel
theorem dX12_carry_1 : decode cX12_carry 1 = .ok (.iload_n 1, 1) := by decide +kernel
theorem dX12_carry_2 : decode cX12_carry 2 = .ok (.invokevirtual 530, 3) := by decide +kernel
theorem dX12_carry_5 : decode cX12_carry 5 = .ok (.ifCond .eq 31, 3) := by decide +kernel
theorem dX12_carry_36 : decode cX12_carry 36 = .ok (.iconst (-1), 1) := by decide +kernel
theorem dX12_carry_37 : decode cX12_carry 37 = .ok (.ireturn, 1) := by decide +kernel
theorem dX12_close_0 : decode cX12_close 0 = .ok (.aload_n 0, 1) := by decide +kernel
theorem dX12_close_1 : decode cX12_close 1 = .ok (.getfield 407, 3) := by decide +kernel
theorem dX12_close_4 : decode cX12_close 4 = .ok (.ifCond .eq 22, 3) := by decide +kernel
theorem dX12_close_26 : decode cX12_close 26 = .ok (.iconst (-1), 1) := by decide +kernel
theorem dX12_close_27 : decode cX12_close 27 = .ok (.ireturn, 1) := by decide +kernel
theorem dX12_count_0 : decode cX12_count 0 = .ok (.iload_n 1, 1) := by decide +kernel
theorem dX12_count_1 : decode cX12_count 1 = .ok (.tableswitch 77 0 5 #[39, 44, 49, 54, 59, 72], 39) := by decide +kernel
theorem dX12_count_40 : decode cX12_count 40 = .ok (.aload_n 0, 1) := by decide +kernel
theorem dX12_count_41 : decode cX12_count 41 = .ok (.getfield 251, 3) := by decide +kernel
theorem dX12_count_44 : decode cX12_count 44 = .ok (.ireturn, 1) := by decide +kernel
theorem dX12_count_45 : decode cX12_count 45 = .ok (.aload_n 0, 1) := by decide +kernel
theorem dX12_count_46 : decode cX12_count 46 = .ok (.getfield 339, 3) := by decide +kernel
theorem dX12_count_49 : decode cX12_count 49 = .ok (.ireturn, 1) := by decide +kernel
theorem dX12_count_50 : decode cX12_count 50 = .ok (.aload_n 0, 1) := by decide +kernel
theorem dX12_count_51 : decode cX12_count 51 = .ok (.getfield 336, 3) := by decide +kernel
theorem dX12_count_54 : decode cX12_count 54 = .ok (.ireturn, 1) := by decide +kernel
theorem dX12_count_55 : decode cX12_count 55 = .ok (.aload_n 0, 1) := by decide +kernel
theorem dX12_count_56 : decode cX12_count 56 = .ok (.getfield 163, 3) := by decide +kernel
theorem dX12_count_59 : decode cX12_count 59 = .ok (.ireturn, 1) := by decide +kernel
theorem dX12_count_60 : decode cX12_count 60 = .ok (.aload_n 0, 1) := by decide +kernel
theorem dX12_count_61 : decode cX12_count 61 = .ok (.getfield 407, 3) := by decide +kernel
theorem dX12_count_64 : decode cX12_count 64 = .ok (.ifCond .eq 7, 3) := by decide +kernel
theorem dX12_count_71 : decode cX12_count 71 = .ok (.iconst 0, 1) := by decide +kernel
theorem dX12_count_72 : decode cX12_count 72 = .ok (.ireturn, 1) := by decide +kernel
theorem dX12_count_73 : decode cX12_count 73 = .ok (.aload_n 0, 1) := by decide +kernel
theorem dX12_count_74 : decode cX12_count 74 = .ok (.getfield 447, 3) := by decide +kernel
theorem dX12_count_77 : decode cX12_count 77 = .ok (.ireturn, 1) := by decide +kernel
theorem dX12_count_78 : decode cX12_count 78 = .ok (.iconst (-1), 1) := by decide +kernel
theorem dX12_count_79 : decode cX12_count 79 = .ok (.ireturn, 1) := by decide +kernel
theorem dX12_drop_0 : decode cX12_drop 0 = .ok (.aload_n 0, 1) := by decide +kernel
theorem dX12_drop_1 : decode cX12_drop 1 = .ok (.getfield 407, 3) := by decide +kernel
theorem dX12_drop_4 : decode cX12_drop 4 = .ok (.ifCond .ne 5, 3) := by decide +kernel
theorem dX12_drop_7 : decode cX12_drop 7 = .ok (.iconst 0, 1) := by decide +kernel
theorem dX12_drop_8 : decode cX12_drop 8 = .ok (.ireturn, 1) := by decide +kernel
theorem dX12_end_0 : decode cX12_end 0 = .ok (.iload_n 1, 1) := by decide +kernel
theorem dX12_end_1 : decode cX12_end 1 = .ok (.i2l, 1) := by decide +kernel
theorem dX12_end_2 : decode cX12_end 2 = .ok (.lconst 0, 1) := by decide +kernel
theorem dX12_end_3 : decode cX12_end 3 = .ok (.aload_n 0, 1) := by decide +kernel
theorem dX12_end_4 : decode cX12_end 4 = .ok (.getfield 163, 3) := by decide +kernel
theorem dX12_end_7 : decode cX12_end 7 = .ok (.i2l, 1) := by decide +kernel
theorem dX12_end_8 : decode cX12_end 8 = .ok (.invokestatic 171, 3) := by decide +kernel
theorem dX12_end_11 : decode cX12_end 11 = .ok (.ifCond .ne 5, 3) := by decide +kernel
theorem dX12_end_14 : decode cX12_end 14 = .ok (.iconst 0, 1) := by decide +kernel
theorem dX12_end_15 : decode cX12_end 15 = .ok (.ireturn, 1) := by decide +kernel
theorem dX12_end_16 : decode cX12_end 16 = .ok (.aload_n 0, 1) := by decide +kernel
theorem dX12_end_17 : decode cX12_end 17 = .ok (.iload_n 1, 1) := by decide +kernel
theorem dX12_end_18 : decode cX12_end 18 = .ok (.putfield 163, 3) := by decide +kernel
theorem dX12_end_21 : decode cX12_end 21 = .ok (.iconst 1, 1) := by decide +kernel
theorem dX12_end_22 : decode cX12_end 22 = .ok (.ireturn, 1) := by decide +kernel
theorem dX12_fails_0 : decode cX12_fails 0 = .ok (.aload_n 0, 1) := by decide +kernel
theorem dX12_fails_1 : decode cX12_fails 1 = .ok (.getfield 193, 3) := by decide +kernel
theorem dX12_fails_4 : decode cX12_fails 4 = .ok (.iconst (-1), 1) := by decide +kernel
theorem dX12_fails_5 : decode cX12_fails 5 = .ok (.if_icmp .ne 11, 3) := by decide +kernel
theorem dX12_fails_8 : decode cX12_fails 8 = .ok (.aload_n 0, 1) := by decide +kernel
theorem dX12_fails_9 : decode cX12_fails 9 = .ok (.aload_n 0, 1) := by decide +kernel
theorem dX12_fails_10 : decode cX12_fails 10 = .ok (.getfield 179, 3) := by decide +kernel
theorem dX12_fails_13 : decode cX12_fails 13 = .ok (.putfield 193, 3) := by decide +kernel
theorem dX12_fails_16 : decode cX12_fails 16 = .ok (.iconst 0, 1) := by decide +kernel
theorem dX12_fails_17 : decode cX12_fails 17 = .ok (.ireturn, 1) := by decide +kernel
theorem dX12_fault_0 : decode cX12_fault 0 = .ok (.iload_n 1, 1) := by decide +kernel
theorem dX12_fault_1 : decode cX12_fault 1 = .ok (.ifCond .eq 10, 3) := by decide +kernel
theorem dX12_fault_4 : decode cX12_fault 4 = .ok (.aload_n 0, 1) := by decide +kernel
theorem dX12_fault_5 : decode cX12_fault 5 = .ok (.invokevirtual 282, 3) := by decide +kernel
theorem dX12_fault_8 : decode cX12_fault 8 = .ok (.goto 7, 3) := by decide +kernel
theorem dX12_fault_11 : decode cX12_fault 11 = .ok (.aload_n 0, 1) := by decide +kernel
theorem dX12_fault_12 : decode cX12_fault 12 = .ok (.invokevirtual 285, 3) := by decide +kernel
theorem dX12_fault_15 : decode cX12_fault 15 = .ok (.aload_n 0, 1) := by decide +kernel
theorem dX12_fault_16 : decode cX12_fault 16 = .ok (.getfield 193, 3) := by decide +kernel
theorem dX12_fault_19 : decode cX12_fault 19 = .ok (.ireturn, 1) := by decide +kernel
theorem dX12_feed_0 : decode cX12_feed 0 = .ok (.aload_n 0, 1) := by decide +kernel
theorem dX12_feed_1 : decode cX12_feed 1 = .ok (.getfield 163, 3) := by decide +kernel
theorem dX12_feed_4 : decode cX12_feed 4 = .ok (.bipush 20, 2) := by decide +kernel
theorem dX12_feed_6 : decode cX12_feed 6 = .ok (.iadd, 1) := by decide +kernel
theorem dX12_feed_7 : decode cX12_feed 7 = .ok (.sipush 500, 3) := by decide +kernel
theorem dX12_feed_10 : decode cX12_feed 10 = .ok (.if_icmp .le 5, 3) := by decide +kernel
theorem dX12_feed_15 : decode cX12_feed 15 = .ok (.aload_n 0, 1) := by decide +kernel
theorem dX12_feed_16 : decode cX12_feed 16 = .ok (.iload_n 1, 1) := by decide +kernel
theorem dX12_feed_17 : decode cX12_feed 17 = .ok (.invokevirtual 167, 3) := by decide +kernel
theorem dX12_feed_20 : decode cX12_feed 20 = .ok (.aload_n 0, 1) := by decide +kernel
theorem dX12_feed_21 : decode cX12_feed 21 = .ok (.iload_n 2, 1) := by decide +kernel
theorem dX12_feed_22 : decode cX12_feed 22 = .ok (.invokevirtual 167, 3) := by decide +kernel
theorem dX12_feed_25 : decode cX12_feed 25 = .ok (.aload_n 0, 1) := by decide +kernel
theorem dX12_feed_26 : decode cX12_feed 26 = .ok (.iload_n 3, 1) := by decide +kernel
theorem dX12_feed_27 : decode cX12_feed 27 = .ok (.invokevirtual 167, 3) := by decide +kernel
theorem dX12_feed_30 : decode cX12_feed 30 = .ok (.aload_n 0, 1) := by decide +kernel
theorem dX12_feed_31 : decode cX12_feed 31 = .ok (.iload 4, 2) := by decide +kernel
theorem dX12_feed_33 : decode cX12_feed 33 = .ok (.invokevirtual 167, 3) := by decide +kernel
theorem dX12_feed_36 : decode cX12_feed 36 = .ok (.aload_n 0, 1) := by decide +kernel
theorem dX12_feed_37 : decode cX12_feed 37 = .ok (.iload 5, 2) := by decide +kernel
theorem dX12_feed_39 : decode cX12_feed 39 = .ok (.invokevirtual 167, 3) := by decide +kernel
theorem dX12_feed_42 : decode cX12_feed 42 = .ok (.aload_n 0, 1) := by decide +kernel
theorem dX12_feed_43 : decode cX12_feed 43 = .ok (.getfield 163, 3) := by decide +kernel
theorem dX12_feed_46 : decode cX12_feed 46 = .ok (.ireturn, 1) := by decide +kernel
theorem dX12_feeds_0 : decode cX12_feeds 0 = .ok (.iconst 3, 1) := by decide +kernel
theorem dX12_feeds_1 : decode cX12_feeds 1 = .ok (.istore_n 2, 1) := by decide +kernel
theorem dX12_feeds_2 : decode cX12_feeds 2 = .ok (.iload_n 2, 1) := by decide +kernel
theorem dX12_feeds_3 : decode cX12_feeds 3 = .ok (.ifCond .lt 35, 3) := by decide +kernel
theorem dX12_feeds_6 : decode cX12_feeds 6 = .ok (.aload_n 0, 1) := by decide +kernel
theorem dX12_feeds_7 : decode cX12_feeds 7 = .ok (.getfield 9, 3) := by decide +kernel
theorem dX12_feeds_10 : decode cX12_feeds 10 = .ok (.aload_n 0, 1) := by decide +kernel
theorem dX12_feeds_11 : decode cX12_feeds 11 = .ok (.getfield 163, 3) := by decide +kernel
theorem dX12_feeds_14 : decode cX12_feeds 14 = .ok (.iload_n 1, 1) := by decide +kernel
theorem dX12_feeds_15 : decode cX12_feeds 15 = .ok (.bipush 8, 2) := by decide +kernel
theorem dX12_feeds_17 : decode cX12_feeds 17 = .ok (.iload_n 2, 1) := by decide +kernel
theorem dX12_feeds_18 : decode cX12_feeds 18 = .ok (.imul, 1) := by decide +kernel
theorem dX12_feeds_19 : decode cX12_feeds 19 = .ok (.iushr, 1) := by decide +kernel
theorem dX12_feeds_20 : decode cX12_feeds 20 = .ok (.i2b, 1) := by decide +kernel
theorem dX12_feeds_21 : decode cX12_feeds 21 = .ok (.bastore, 1) := by decide +kernel
theorem dX12_feeds_22 : decode cX12_feeds 22 = .ok (.aload_n 0, 1) := by decide +kernel
theorem dX12_feeds_23 : decode cX12_feeds 23 = .ok (.dup, 1) := by decide +kernel
theorem dX12_feeds_24 : decode cX12_feeds 24 = .ok (.getfield 163, 3) := by decide +kernel
theorem dX12_feeds_27 : decode cX12_feeds 27 = .ok (.iconst 1, 1) := by decide +kernel
theorem dX12_feeds_28 : decode cX12_feeds 28 = .ok (.iadd, 1) := by decide +kernel
theorem dX12_feeds_29 : decode cX12_feeds 29 = .ok (.putfield 163, 3) := by decide +kernel
theorem dX12_feeds_32 : decode cX12_feeds 32 = .ok (.iinc 2 (-1), 3) := by decide +kernel
theorem dX12_feeds_35 : decode cX12_feeds 35 = .ok (.goto (-33), 3) := by decide +kernel
theorem dX12_feeds_38 : decode cX12_feeds 38 = .ok (.return_, 1) := by decide +kernel
theorem dX12_first_0 : decode cX12_first 0 = .ok (.aload_n 0, 1) := by decide +kernel
theorem dX12_first_1 : decode cX12_first 1 = .ok (.invokevirtual 348, 3) := by decide +kernel
theorem dX12_first_4 : decode cX12_first 4 = .ok (.ifCond .eq 18, 3) := by decide +kernel
theorem dX12_first_22 : decode cX12_first 22 = .ok (.iconst (-1), 1) := by decide +kernel
theorem dX12_first_23 : decode cX12_first 23 = .ok (.ireturn, 1) := by decide +kernel
theorem dX12_from_0 : decode cX12_from 0 = .ok (.aload_n 0, 1) := by decide +kernel
theorem dX12_from_1 : decode cX12_from 1 = .ok (.iload_n 1, 1) := by decide +kernel
theorem dX12_from_2 : decode cX12_from 2 = .ok (.invokevirtual 396, 3) := by decide +kernel
theorem dX12_from_5 : decode cX12_from 5 = .ok (.ifCond .eq 24, 3) := by decide +kernel
theorem dX12_from_29 : decode cX12_from 29 = .ok (.iconst 0, 1) := by decide +kernel
theorem dX12_from_30 : decode cX12_from 30 = .ok (.ireturn, 1) := by decide +kernel
theorem dX12_grammar_0 : decode cX12_grammar 0 = .ok (.aload_n 0, 1) := by decide +kernel
theorem dX12_grammar_1 : decode cX12_grammar 1 = .ok (.getfield 251, 3) := by decide +kernel
theorem dX12_grammar_4 : decode cX12_grammar 4 = .ok (.ifCond .le 5, 3) := by decide +kernel
theorem dX12_grammar_9 : decode cX12_grammar 9 = .ok (.aload_n 0, 1) := by decide +kernel
theorem dX12_grammar_10 : decode cX12_grammar 10 = .ok (.invokevirtual 285, 3) := by decide +kernel
theorem dX12_grammar_13 : decode cX12_grammar 13 = .ok (.aload_n 0, 1) := by decide +kernel
theorem dX12_grammar_14 : decode cX12_grammar 14 = .ok (.getfield 193, 3) := by decide +kernel
theorem dX12_grammar_17 : decode cX12_grammar 17 = .ok (.iconst (-1), 1) := by decide +kernel
theorem dX12_grammar_18 : decode cX12_grammar 18 = .ok (.if_icmp .eq 5, 3) := by decide +kernel
theorem dX12_grammar_21 : decode cX12_grammar 21 = .ok (.iconst (-1), 1) := by decide +kernel
theorem dX12_grammar_22 : decode cX12_grammar 22 = .ok (.ireturn, 1) := by decide +kernel
theorem dX12_hasOneParent_0 : decode cX12_hasOneParent 0 = .ok (.aload_n 0, 1) := by decide +kernel
theorem dX12_hasOneParent_1 : decode cX12_hasOneParent 1 = .ok (.iload_n 1, 1) := by decide +kernel
theorem dX12_hasOneParent_2 : decode cX12_hasOneParent 2 = .ok (.invokevirtual 396, 3) := by decide +kernel
theorem dX12_hasOneParent_5 : decode cX12_hasOneParent 5 = .ok (.ifCond .eq 27, 3) := by decide +kernel
theorem dX12_hasOneParent_32 : decode cX12_hasOneParent 32 = .ok (.iconst 0, 1) := by decide +kernel
theorem dX12_hasOneParent_33 : decode cX12_hasOneParent 33 = .ok (.ireturn, 1) := by decide +kernel
theorem dX12_in_0 : decode cX12_in 0 = .ok (.lload_n 0, 1) := by decide +kernel
theorem dX12_in_1 : decode cX12_in 1 = .ok (.lload_n 2, 1) := by decide +kernel
theorem dX12_in_2 : decode cX12_in 2 = .ok (.lcmp, 1) := by decide +kernel
theorem dX12_in_3 : decode cX12_in 3 = .ok (.ifCond .lt 14, 3) := by decide +kernel
theorem dX12_in_6 : decode cX12_in 6 = .ok (.lload_n 0, 1) := by decide +kernel
theorem dX12_in_7 : decode cX12_in 7 = .ok (.lload 4, 2) := by decide +kernel
theorem dX12_in_9 : decode cX12_in 9 = .ok (.lcmp, 1) := by decide +kernel
theorem dX12_in_10 : decode cX12_in 10 = .ok (.ifCond .gt 7, 3) := by decide +kernel
theorem dX12_in_13 : decode cX12_in 13 = .ok (.iconst 1, 1) := by decide +kernel
theorem dX12_in_14 : decode cX12_in 14 = .ok (.goto 4, 3) := by decide +kernel
theorem dX12_in_17 : decode cX12_in 17 = .ok (.iconst 0, 1) := by decide +kernel
theorem dX12_in_18 : decode cX12_in 18 = .ok (.ireturn, 1) := by decide +kernel
theorem dX12_inDraft_0 : decode cX12_inDraft 0 = .ok (.aload_n 0, 1) := by decide +kernel
theorem dX12_inDraft_1 : decode cX12_inDraft 1 = .ok (.getfield 407, 3) := by decide +kernel
theorem dX12_inDraft_4 : decode cX12_inDraft 4 = .ok (.ifCond .eq 35, 3) := by decide +kernel
theorem dX12_inDraft_39 : decode cX12_inDraft 39 = .ok (.iconst 0, 1) := by decide +kernel
theorem dX12_inDraft_40 : decode cX12_inDraft 40 = .ok (.ireturn, 1) := by decide +kernel
theorem dX12_init_0 : decode cX12_init 0 = .ok (.aload_n 0, 1) := by decide +kernel
theorem dX12_init_1 : decode cX12_init 1 = .ok (.invokespecial 1, 3) := by decide +kernel
theorem dX12_init_4 : decode cX12_init 4 = .ok (.aload_n 0, 1) := by decide +kernel
theorem dX12_init_5 : decode cX12_init 5 = .ok (.sipush 500, 3) := by decide +kernel
theorem dX12_init_8 : decode cX12_init 8 = .ok (.newarray .byte, 2) := by decide +kernel
theorem dX12_init_10 : decode cX12_init 10 = .ok (.putfield 9, 3) := by decide +kernel
theorem dX12_init_13 : decode cX12_init 13 = .ok (.aload_n 0, 1) := by decide +kernel
theorem dX12_init_14 : decode cX12_init 14 = .ok (.sipush 500, 3) := by decide +kernel
theorem dX12_init_17 : decode cX12_init 17 = .ok (.newarray .byte, 2) := by decide +kernel
theorem dX12_init_19 : decode cX12_init 19 = .ok (.putfield 13, 3) := by decide +kernel
theorem dX12_init_22 : decode cX12_init 22 = .ok (.aload_n 0, 1) := by decide +kernel
theorem dX12_init_23 : decode cX12_init 23 = .ok (.bipush 10, 2) := by decide +kernel
theorem dX12_init_25 : decode cX12_init 25 = .ok (.newarray .int, 2) := by decide +kernel
theorem dX12_init_27 : decode cX12_init 27 = .ok (.putfield 16, 3) := by decide +kernel
theorem dX12_init_30 : decode cX12_init 30 = .ok (.aload_n 0, 1) := by decide +kernel
theorem dX12_init_31 : decode cX12_init 31 = .ok (.bipush 10, 2) := by decide +kernel
theorem dX12_init_33 : decode cX12_init 33 = .ok (.newarray .int, 2) := by decide +kernel
theorem dX12_init_35 : decode cX12_init 35 = .ok (.putfield 20, 3) := by decide +kernel
theorem dX12_init_38 : decode cX12_init 38 = .ok (.aload_n 0, 1) := by decide +kernel
theorem dX12_init_39 : decode cX12_init 39 = .ok (.bipush 10, 2) := by decide +kernel
theorem dX12_init_41 : decode cX12_init 41 = .ok (.newarray .int, 2) := by decide +kernel
theorem dX12_init_43 : decode cX12_init 43 = .ok (.putfield 23, 3) := by decide +kernel
theorem dX12_init_46 : decode cX12_init 46 = .ok (.aload_n 0, 1) := by decide +kernel
theorem dX12_init_47 : decode cX12_init 47 = .ok (.bipush 10, 2) := by decide +kernel
theorem dX12_init_49 : decode cX12_init 49 = .ok (.newarray .int, 2) := by decide +kernel
theorem dX12_init_51 : decode cX12_init 51 = .ok (.putfield 26, 3) := by decide +kernel
theorem dX12_init_54 : decode cX12_init 54 = .ok (.aload_n 0, 1) := by decide +kernel
theorem dX12_init_55 : decode cX12_init 55 = .ok (.bipush 10, 2) := by decide +kernel
theorem dX12_init_57 : decode cX12_init 57 = .ok (.sipush 252, 3) := by decide +kernel
theorem dX12_init_60 : decode cX12_init 60 = .ok (.multianewarray 29 2, 4) := by decide +kernel
theorem dX12_init_64 : decode cX12_init 64 = .ok (.putfield 31, 3) := by decide +kernel
theorem dX12_init_67 : decode cX12_init 67 = .ok (.aload_n 0, 1) := by decide +kernel
theorem dX12_init_68 : decode cX12_init 68 = .ok (.bipush 10, 2) := by decide +kernel
theorem dX12_init_70 : decode cX12_init 70 = .ok (.sipush 252, 3) := by decide +kernel
theorem dX12_init_73 : decode cX12_init 73 = .ok (.multianewarray 29 2, 4) := by decide +kernel
theorem dX12_init_77 : decode cX12_init 77 = .ok (.putfield 34, 3) := by decide +kernel
theorem dX12_init_80 : decode cX12_init 80 = .ok (.aload_n 0, 1) := by decide +kernel
theorem dX12_init_81 : decode cX12_init 81 = .ok (.bipush 10, 2) := by decide +kernel
theorem dX12_init_83 : decode cX12_init 83 = .ok (.sipush 252, 3) := by decide +kernel
theorem dX12_init_86 : decode cX12_init 86 = .ok (.multianewarray 29 2, 4) := by decide +kernel
theorem dX12_init_90 : decode cX12_init 90 = .ok (.putfield 37, 3) := by decide +kernel
theorem dX12_init_93 : decode cX12_init 93 = .ok (.aload_n 0, 1) := by decide +kernel
theorem dX12_init_94 : decode cX12_init 94 = .ok (.bipush 10, 2) := by decide +kernel
theorem dX12_init_96 : decode cX12_init 96 = .ok (.sipush 252, 3) := by decide +kernel
theorem dX12_init_99 : decode cX12_init 99 = .ok (.multianewarray 29 2, 4) := by decide +kernel
theorem dX12_init_103 : decode cX12_init 103 = .ok (.putfield 40, 3) := by decide +kernel
theorem dX12_init_106 : decode cX12_init 106 = .ok (.aload_n 0, 1) := by decide +kernel
theorem dX12_init_107 : decode cX12_init 107 = .ok (.bipush 16, 2) := by decide +kernel
theorem dX12_init_109 : decode cX12_init 109 = .ok (.sipush 150, 3) := by decide +kernel
theorem dX12_init_112 : decode cX12_init 112 = .ok (.multianewarray 43 2, 4) := by decide +kernel
theorem dX12_init_116 : decode cX12_init 116 = .ok (.putfield 45, 3) := by decide +kernel
theorem dX12_init_119 : decode cX12_init 119 = .ok (.aload_n 0, 1) := by decide +kernel
theorem dX12_init_120 : decode cX12_init 120 = .ok (.bipush 16, 2) := by decide +kernel
theorem dX12_init_122 : decode cX12_init 122 = .ok (.sipush 150, 3) := by decide +kernel
theorem dX12_init_125 : decode cX12_init 125 = .ok (.multianewarray 48 2, 4) := by decide +kernel
theorem dX12_init_129 : decode cX12_init 129 = .ok (.putfield 50, 3) := by decide +kernel
theorem dX12_init_132 : decode cX12_init 132 = .ok (.aload_n 0, 1) := by decide +kernel
theorem dX12_init_133 : decode cX12_init 133 = .ok (.bipush 16, 2) := by decide +kernel
theorem dX12_init_135 : decode cX12_init 135 = .ok (.sipush 150, 3) := by decide +kernel
theorem dX12_init_138 : decode cX12_init 138 = .ok (.multianewarray 29 2, 4) := by decide +kernel
theorem dX12_init_142 : decode cX12_init 142 = .ok (.putfield 53, 3) := by decide +kernel
theorem dX12_init_145 : decode cX12_init 145 = .ok (.aload_n 0, 1) := by decide +kernel
theorem dX12_init_146 : decode cX12_init 146 = .ok (.bipush 16, 2) := by decide +kernel
theorem dX12_init_148 : decode cX12_init 148 = .ok (.sipush 150, 3) := by decide +kernel
theorem dX12_init_151 : decode cX12_init 151 = .ok (.multianewarray 29 2, 4) := by decide +kernel
theorem dX12_init_155 : decode cX12_init 155 = .ok (.putfield 56, 3) := by decide +kernel
theorem dX12_init_158 : decode cX12_init 158 = .ok (.aload_n 0, 1) := by decide +kernel
theorem dX12_init_159 : decode cX12_init 159 = .ok (.sipush 150, 3) := by decide +kernel
theorem dX12_init_162 : decode cX12_init 162 = .ok (.newarray .int, 2) := by decide +kernel
theorem dX12_init_164 : decode cX12_init 164 = .ok (.putfield 59, 3) := by decide +kernel
theorem dX12_init_167 : decode cX12_init 167 = .ok (.aload_n 0, 1) := by decide +kernel
theorem dX12_init_168 : decode cX12_init 168 = .ok (.sipush 150, 3) := by decide +kernel
theorem dX12_init_171 : decode cX12_init 171 = .ok (.newarray .int, 2) := by decide +kernel
theorem dX12_init_173 : decode cX12_init 173 = .ok (.putfield 62, 3) := by decide +kernel
theorem dX12_init_176 : decode cX12_init 176 = .ok (.aload_n 0, 1) := by decide +kernel
theorem dX12_init_177 : decode cX12_init 177 = .ok (.bipush 24, 2) := by decide +kernel
theorem dX12_init_179 : decode cX12_init 179 = .ok (.newarray .int, 2) := by decide +kernel
theorem dX12_init_181 : decode cX12_init 181 = .ok (.putfield 65, 3) := by decide +kernel
theorem dX12_init_184 : decode cX12_init 184 = .ok (.aload_n 0, 1) := by decide +kernel
theorem dX12_init_185 : decode cX12_init 185 = .ok (.sipush 150, 3) := by decide +kernel
theorem dX12_init_188 : decode cX12_init 188 = .ok (.newarray .boolean, 2) := by decide +kernel
theorem dX12_init_190 : decode cX12_init 190 = .ok (.putfield 68, 3) := by decide +kernel
theorem dX12_init_193 : decode cX12_init 193 = .ok (.aload_n 0, 1) := by decide +kernel
theorem dX12_init_194 : decode cX12_init 194 = .ok (.bipush 12, 2) := by decide +kernel
theorem dX12_init_196 : decode cX12_init 196 = .ok (.newarray .int, 2) := by decide +kernel
theorem dX12_init_198 : decode cX12_init 198 = .ok (.putfield 72, 3) := by decide +kernel
theorem dX12_init_201 : decode cX12_init 201 = .ok (.aload_n 0, 1) := by decide +kernel
theorem dX12_init_202 : decode cX12_init 202 = .ok (.bipush 12, 2) := by decide +kernel
theorem dX12_init_204 : decode cX12_init 204 = .ok (.newarray .int, 2) := by decide +kernel
theorem dX12_init_206 : decode cX12_init 206 = .ok (.putfield 75, 3) := by decide +kernel
theorem dX12_init_209 : decode cX12_init 209 = .ok (.aload_n 0, 1) := by decide +kernel
theorem dX12_init_210 : decode cX12_init 210 = .ok (.sipush 500, 3) := by decide +kernel
theorem dX12_init_213 : decode cX12_init 213 = .ok (.newarray .byte, 2) := by decide +kernel
theorem dX12_init_215 : decode cX12_init 215 = .ok (.putfield 78, 3) := by decide +kernel
theorem dX12_init_218 : decode cX12_init 218 = .ok (.aload_n 0, 1) := by decide +kernel
theorem dX12_init_219 : decode cX12_init 219 = .ok (.bipush 10, 2) := by decide +kernel
theorem dX12_init_221 : decode cX12_init 221 = .ok (.newarray .int, 2) := by decide +kernel
theorem dX12_init_223 : decode cX12_init 223 = .ok (.putfield 81, 3) := by decide +kernel
theorem dX12_init_226 : decode cX12_init 226 = .ok (.aload_n 0, 1) := by decide +kernel
theorem dX12_init_227 : decode cX12_init 227 = .ok (.bipush 10, 2) := by decide +kernel
theorem dX12_init_229 : decode cX12_init 229 = .ok (.newarray .int, 2) := by decide +kernel
theorem dX12_init_231 : decode cX12_init 231 = .ok (.putfield 84, 3) := by decide +kernel
theorem dX12_init_234 : decode cX12_init 234 = .ok (.aload_n 0, 1) := by decide +kernel
theorem dX12_init_235 : decode cX12_init 235 = .ok (.bipush 10, 2) := by decide +kernel
theorem dX12_init_237 : decode cX12_init 237 = .ok (.newarray .int, 2) := by decide +kernel
theorem dX12_init_239 : decode cX12_init 239 = .ok (.putfield 87, 3) := by decide +kernel
theorem dX12_init_242 : decode cX12_init 242 = .ok (.aload_n 0, 1) := by decide +kernel
theorem dX12_init_243 : decode cX12_init 243 = .ok (.bipush 10, 2) := by decide +kernel
theorem dX12_init_245 : decode cX12_init 245 = .ok (.newarray .int, 2) := by decide +kernel
theorem dX12_init_247 : decode cX12_init 247 = .ok (.putfield 90, 3) := by decide +kernel
theorem dX12_init_250 : decode cX12_init 250 = .ok (.aload_n 0, 1) := by decide +kernel
theorem dX12_init_251 : decode cX12_init 251 = .ok (.bipush 10, 2) := by decide +kernel
theorem dX12_init_253 : decode cX12_init 253 = .ok (.sipush 252, 3) := by decide +kernel
theorem dX12_init_256 : decode cX12_init 256 = .ok (.multianewarray 29 2, 4) := by decide +kernel
theorem dX12_init_260 : decode cX12_init 260 = .ok (.putfield 93, 3) := by decide +kernel
theorem dX12_init_263 : decode cX12_init 263 = .ok (.aload_n 0, 1) := by decide +kernel
theorem dX12_init_264 : decode cX12_init 264 = .ok (.bipush 10, 2) := by decide +kernel
theorem dX12_init_266 : decode cX12_init 266 = .ok (.sipush 252, 3) := by decide +kernel
theorem dX12_init_269 : decode cX12_init 269 = .ok (.multianewarray 29 2, 4) := by decide +kernel
theorem dX12_init_273 : decode cX12_init 273 = .ok (.putfield 96, 3) := by decide +kernel
theorem dX12_init_276 : decode cX12_init 276 = .ok (.aload_n 0, 1) := by decide +kernel
theorem dX12_init_277 : decode cX12_init 277 = .ok (.bipush 24, 2) := by decide +kernel
theorem dX12_init_279 : decode cX12_init 279 = .ok (.newarray .int, 2) := by decide +kernel
theorem dX12_init_281 : decode cX12_init 281 = .ok (.putfield 99, 3) := by decide +kernel
theorem dX12_init_284 : decode cX12_init 284 = .ok (.aload_n 0, 1) := by decide +kernel
theorem dX12_init_285 : decode cX12_init 285 = .ok (.bipush 24, 2) := by decide +kernel
theorem dX12_init_287 : decode cX12_init 287 = .ok (.newarray .int, 2) := by decide +kernel
theorem dX12_init_289 : decode cX12_init 289 = .ok (.putfield 102, 3) := by decide +kernel
theorem dX12_init_292 : decode cX12_init 292 = .ok (.aload_n 0, 1) := by decide +kernel
theorem dX12_init_293 : decode cX12_init 293 = .ok (.bipush 24, 2) := by decide +kernel
theorem dX12_init_295 : decode cX12_init 295 = .ok (.newarray .int, 2) := by decide +kernel
theorem dX12_init_297 : decode cX12_init 297 = .ok (.putfield 105, 3) := by decide +kernel
theorem dX12_init_300 : decode cX12_init 300 = .ok (.aload_n 0, 1) := by decide +kernel
theorem dX12_init_301 : decode cX12_init 301 = .ok (.bipush 24, 2) := by decide +kernel
theorem dX12_init_303 : decode cX12_init 303 = .ok (.newarray .int, 2) := by decide +kernel
theorem dX12_init_305 : decode cX12_init 305 = .ok (.putfield 108, 3) := by decide +kernel
theorem dX12_init_308 : decode cX12_init 308 = .ok (.aload_n 0, 1) := by decide +kernel
theorem dX12_init_309 : decode cX12_init 309 = .ok (.bipush 24, 2) := by decide +kernel
theorem dX12_init_311 : decode cX12_init 311 = .ok (.newarray .long, 2) := by decide +kernel
theorem dX12_init_313 : decode cX12_init 313 = .ok (.putfield 111, 3) := by decide +kernel
theorem dX12_init_316 : decode cX12_init 316 = .ok (.aload_n 0, 1) := by decide +kernel
theorem dX12_init_317 : decode cX12_init 317 = .ok (.sipush 253, 3) := by decide +kernel
theorem dX12_init_320 : decode cX12_init 320 = .ok (.newarray .boolean, 2) := by decide +kernel
theorem dX12_init_322 : decode cX12_init 322 = .ok (.putfield 115, 3) := by decide +kernel
theorem dX12_init_325 : decode cX12_init 325 = .ok (.aload_n 0, 1) := by decide +kernel
theorem dX12_init_326 : decode cX12_init 326 = .ok (.sipush 253, 3) := by decide +kernel
theorem dX12_init_329 : decode cX12_init 329 = .ok (.newarray .boolean, 2) := by decide +kernel
theorem dX12_init_331 : decode cX12_init 331 = .ok (.putfield 118, 3) := by decide +kernel
theorem dX12_init_334 : decode cX12_init 334 = .ok (.aload_n 0, 1) := by decide +kernel
theorem dX12_init_335 : decode cX12_init 335 = .ok (.bipush 24, 2) := by decide +kernel
theorem dX12_init_337 : decode cX12_init 337 = .ok (.newarray .int, 2) := by decide +kernel
theorem dX12_init_339 : decode cX12_init 339 = .ok (.putfield 121, 3) := by decide +kernel
theorem dX12_init_342 : decode cX12_init 342 = .ok (.aload_n 0, 1) := by decide +kernel
theorem dX12_init_343 : decode cX12_init 343 = .ok (.bipush 40, 2) := by decide +kernel
theorem dX12_init_345 : decode cX12_init 345 = .ok (.newarray .int, 2) := by decide +kernel
theorem dX12_init_347 : decode cX12_init 347 = .ok (.putfield 124, 3) := by decide +kernel
theorem dX12_init_350 : decode cX12_init 350 = .ok (.aload_n 0, 1) := by decide +kernel
theorem dX12_init_351 : decode cX12_init 351 = .ok (.bipush 40, 2) := by decide +kernel
theorem dX12_init_353 : decode cX12_init 353 = .ok (.newarray .int, 2) := by decide +kernel
theorem dX12_init_355 : decode cX12_init 355 = .ok (.putfield 127, 3) := by decide +kernel
theorem dX12_init_358 : decode cX12_init 358 = .ok (.aload_n 0, 1) := by decide +kernel
theorem dX12_init_359 : decode cX12_init 359 = .ok (.bipush 24, 2) := by decide +kernel
theorem dX12_init_361 : decode cX12_init 361 = .ok (.newarray .int, 2) := by decide +kernel
theorem dX12_init_363 : decode cX12_init 363 = .ok (.putfield 130, 3) := by decide +kernel
theorem dX12_init_366 : decode cX12_init 366 = .ok (.aload_n 0, 1) := by decide +kernel
theorem dX12_init_367 : decode cX12_init 367 = .ok (.bipush 40, 2) := by decide +kernel
theorem dX12_init_369 : decode cX12_init 369 = .ok (.newarray .int, 2) := by decide +kernel
theorem dX12_init_371 : decode cX12_init 371 = .ok (.putfield 133, 3) := by decide +kernel
theorem dX12_init_374 : decode cX12_init 374 = .ok (.aload_n 0, 1) := by decide +kernel
theorem dX12_init_375 : decode cX12_init 375 = .ok (.sipush 150, 3) := by decide +kernel
theorem dX12_init_378 : decode cX12_init 378 = .ok (.newarray .int, 2) := by decide +kernel
theorem dX12_init_380 : decode cX12_init 380 = .ok (.putfield 136, 3) := by decide +kernel
theorem dX12_init_383 : decode cX12_init 383 = .ok (.aload_n 0, 1) := by decide +kernel
theorem dX12_init_384 : decode cX12_init 384 = .ok (.sipush 1200, 3) := by decide +kernel
theorem dX12_init_387 : decode cX12_init 387 = .ok (.newarray .int, 2) := by decide +kernel
theorem dX12_init_389 : decode cX12_init 389 = .ok (.putfield 139, 3) := by decide +kernel
theorem dX12_init_392 : decode cX12_init 392 = .ok (.aload_n 0, 1) := by decide +kernel
theorem dX12_init_393 : decode cX12_init 393 = .ok (.sipush 450, 3) := by decide +kernel
theorem dX12_init_396 : decode cX12_init 396 = .ok (.newarray .int, 2) := by decide +kernel
theorem dX12_init_398 : decode cX12_init 398 = .ok (.putfield 142, 3) := by decide +kernel
theorem dX12_init_401 : decode cX12_init 401 = .ok (.aload_n 0, 1) := by decide +kernel
theorem dX12_init_402 : decode cX12_init 402 = .ok (.sipush 450, 3) := by decide +kernel
theorem dX12_init_405 : decode cX12_init 405 = .ok (.newarray .int, 2) := by decide +kernel
theorem dX12_init_407 : decode cX12_init 407 = .ok (.putfield 145, 3) := by decide +kernel
theorem dX12_init_410 : decode cX12_init 410 = .ok (.aload_n 0, 1) := by decide +kernel
theorem dX12_init_411 : decode cX12_init 411 = .ok (.sipush 450, 3) := by decide +kernel
theorem dX12_init_414 : decode cX12_init 414 = .ok (.newarray .int, 2) := by decide +kernel
theorem dX12_init_416 : decode cX12_init 416 = .ok (.putfield 148, 3) := by decide +kernel
theorem dX12_init_419 : decode cX12_init 419 = .ok (.aload_n 0, 1) := by decide +kernel
theorem dX12_init_420 : decode cX12_init 420 = .ok (.sipush 150, 3) := by decide +kernel
theorem dX12_init_423 : decode cX12_init 423 = .ok (.newarray .boolean, 2) := by decide +kernel
theorem dX12_init_425 : decode cX12_init 425 = .ok (.putfield 151, 3) := by decide +kernel
theorem dX12_init_428 : decode cX12_init 428 = .ok (.aload_n 0, 1) := by decide +kernel
theorem dX12_init_429 : decode cX12_init 429 = .ok (.sipush 150, 3) := by decide +kernel
theorem dX12_init_432 : decode cX12_init 432 = .ok (.newarray .boolean, 2) := by decide +kernel
theorem dX12_init_434 : decode cX12_init 434 = .ok (.putfield 154, 3) := by decide +kernel
theorem dX12_init_437 : decode cX12_init 437 = .ok (.aload_n 0, 1) := by decide +kernel
theorem dX12_init_438 : decode cX12_init 438 = .ok (.sipush 1200, 3) := by decide +kernel
theorem dX12_init_441 : decode cX12_init 441 = .ok (.newarray .int, 2) := by decide +kernel
theorem dX12_init_443 : decode cX12_init 443 = .ok (.putfield 157, 3) := by decide +kernel
theorem dX12_init_446 : decode cX12_init 446 = .ok (.aload_n 0, 1) := by decide +kernel
theorem dX12_init_447 : decode cX12_init 447 = .ok (.sipush 20560, 3) := by decide +kernel
theorem dX12_init_450 : decode cX12_init 450 = .ok (.newarray .byte, 2) := by decide +kernel
theorem dX12_init_452 : decode cX12_init 452 = .ok (.putfield 160, 3) := by decide +kernel
theorem dX12_init_455 : decode cX12_init 455 = .ok (.return_, 1) := by decide +kernel
theorem dX12_isEdition_0 : decode cX12_isEdition 0 = .ok (.iload_n 1, 1) := by decide +kernel
theorem dX12_isEdition_1 : decode cX12_isEdition 1 = .ok (.i2l, 1) := by decide +kernel
theorem dX12_isEdition_2 : decode cX12_isEdition 2 = .ok (.lconst 0, 1) := by decide +kernel
theorem dX12_isEdition_3 : decode cX12_isEdition 3 = .ok (.aload_n 0, 1) := by decide +kernel
theorem dX12_isEdition_4 : decode cX12_isEdition 4 = .ok (.getfield 339, 3) := by decide +kernel
theorem dX12_isEdition_7 : decode cX12_isEdition 7 = .ok (.iconst 1, 1) := by decide +kernel
theorem dX12_isEdition_8 : decode cX12_isEdition 8 = .ok (.isub, 1) := by decide +kernel
theorem dX12_isEdition_9 : decode cX12_isEdition 9 = .ok (.i2l, 1) := by decide +kernel
theorem dX12_isEdition_10 : decode cX12_isEdition 10 = .ok (.invokestatic 171, 3) := by decide +kernel
theorem dX12_isEdition_13 : decode cX12_isEdition 13 = .ok (.ireturn, 1) := by decide +kernel
theorem dX12_isName_0 : decode cX12_isName 0 = .ok (.aload_n 0, 1) := by decide +kernel
theorem dX12_isName_1 : decode cX12_isName 1 = .ok (.getfield 179, 3) := by decide +kernel
theorem dX12_isName_4 : decode cX12_isName 4 = .ok (.aload_n 0, 1) := by decide +kernel
theorem dX12_isName_5 : decode cX12_isName 5 = .ok (.getfield 163, 3) := by decide +kernel
theorem dX12_isName_8 : decode cX12_isName 8 = .ok (.if_icmp .ge 40, 3) := by decide +kernel
theorem dX12_isName_48 : decode cX12_isName 48 = .ok (.iconst 0, 1) := by decide +kernel
theorem dX12_isName_49 : decode cX12_isName 49 = .ok (.ireturn, 1) := by decide +kernel
theorem dX12_isNode_0 : decode cX12_isNode 0 = .ok (.aload_n 0, 1) := by decide +kernel
theorem dX12_isNode_1 : decode cX12_isNode 1 = .ok (.iload_n 1, 1) := by decide +kernel
theorem dX12_isNode_2 : decode cX12_isNode 2 = .ok (.invokevirtual 545, 3) := by decide +kernel
theorem dX12_isNode_5 : decode cX12_isNode 5 = .ok (.ifCond .eq 34, 3) := by decide +kernel
theorem dX12_isNode_39 : decode cX12_isNode 39 = .ok (.iconst 0, 1) := by decide +kernel
theorem dX12_isNode_40 : decode cX12_isNode 40 = .ok (.ireturn, 1) := by decide +kernel
theorem dX12_isRow_0 : decode cX12_isRow 0 = .ok (.aload_n 0, 1) := by decide +kernel
theorem dX12_isRow_1 : decode cX12_isRow 1 = .ok (.iload_n 1, 1) := by decide +kernel
theorem dX12_isRow_2 : decode cX12_isRow 2 = .ok (.invokevirtual 396, 3) := by decide +kernel
theorem dX12_isRow_5 : decode cX12_isRow 5 = .ok (.ifCond .ne 16, 3) := by decide +kernel
theorem dX12_isRow_8 : decode cX12_isRow 8 = .ok (.iload_n 1, 1) := by decide +kernel
theorem dX12_isRow_9 : decode cX12_isRow 9 = .ok (.bipush 12, 2) := by decide +kernel
theorem dX12_isRow_11 : decode cX12_isRow 11 = .ok (.if_icmp .ne 14, 3) := by decide +kernel
theorem dX12_isRow_14 : decode cX12_isRow 14 = .ok (.aload_n 0, 1) := by decide +kernel
theorem dX12_isRow_15 : decode cX12_isRow 15 = .ok (.getfield 407, 3) := by decide +kernel
theorem dX12_isRow_18 : decode cX12_isRow 18 = .ok (.ifCond .eq 7, 3) := by decide +kernel
theorem dX12_isRow_25 : decode cX12_isRow 25 = .ok (.iconst 0, 1) := by decide +kernel
theorem dX12_isRow_26 : decode cX12_isRow 26 = .ok (.ireturn, 1) := by decide +kernel
theorem dX12_match_0 : decode cX12_match 0 = .ok (.aload_n 0, 1) := by decide +kernel
theorem dX12_match_1 : decode cX12_match 1 = .ok (.iload_n 1, 1) := by decide +kernel
theorem dX12_match_2 : decode cX12_match 2 = .ok (.invokevirtual 396, 3) := by decide +kernel
theorem dX12_match_5 : decode cX12_match 5 = .ok (.ifCond .ne 5, 3) := by decide +kernel
theorem dX12_match_8 : decode cX12_match 8 = .ok (.iconst (-1), 1) := by decide +kernel
theorem dX12_match_9 : decode cX12_match 9 = .ok (.ireturn, 1) := by decide +kernel
theorem dX12_merge_0 : decode cX12_merge 0 = .ok (.aload_n 0, 1) := by decide +kernel
theorem dX12_merge_1 : decode cX12_merge 1 = .ok (.iload_n 1, 1) := by decide +kernel
theorem dX12_merge_2 : decode cX12_merge 2 = .ok (.invokevirtual 396, 3) := by decide +kernel
theorem dX12_merge_5 : decode cX12_merge 5 = .ok (.ifCond .eq 11, 3) := by decide +kernel
theorem dX12_merge_16 : decode cX12_merge 16 = .ok (.iconst (-1), 1) := by decide +kernel
theorem dX12_merge_17 : decode cX12_merge 17 = .ok (.ireturn, 1) := by decide +kernel
theorem dX12_move_0 : decode cX12_move 0 = .ok (.aload_n 0, 1) := by decide +kernel
theorem dX12_move_1 : decode cX12_move 1 = .ok (.iload_n 1, 1) := by decide +kernel
theorem dX12_move_2 : decode cX12_move 2 = .ok (.invokevirtual 425, 3) := by decide +kernel
theorem dX12_move_5 : decode cX12_move 5 = .ok (.ifCond .eq 35, 3) := by decide +kernel
theorem dX12_move_40 : decode cX12_move 40 = .ok (.iconst 0, 1) := by decide +kernel
theorem dX12_move_41 : decode cX12_move 41 = .ok (.ireturn, 1) := by decide +kernel
theorem dX12_name_0 : decode cX12_name 0 = .ok (.aload_n 0, 1) := by decide +kernel
theorem dX12_name_1 : decode cX12_name 1 = .ok (.iload_n 1, 1) := by decide +kernel
theorem dX12_name_2 : decode cX12_name 2 = .ok (.invokevirtual 396, 3) := by decide +kernel
theorem dX12_name_5 : decode cX12_name 5 = .ok (.ifCond .eq 16, 3) := by decide +kernel
theorem dX12_name_21 : decode cX12_name 21 = .ok (.iconst (-1), 1) := by decide +kernel
theorem dX12_name_22 : decode cX12_name 22 = .ok (.ireturn, 1) := by decide +kernel
theorem dX12_next__0 : decode cX12_next_ 0 = .ok (.aload_n 0, 1) := by decide +kernel
theorem dX12_next__1 : decode cX12_next_ 1 = .ok (.iload_n 1, 1) := by decide +kernel
theorem dX12_next__2 : decode cX12_next_ 2 = .ok (.invokevirtual 396, 3) := by decide +kernel
theorem dX12_next__5 : decode cX12_next_ 5 = .ok (.ifCond .eq 10, 3) := by decide +kernel
theorem dX12_next__15 : decode cX12_next_ 15 = .ok (.iconst (-1), 1) := by decide +kernel
theorem dX12_next__16 : decode cX12_next_ 16 = .ok (.ireturn, 1) := by decide +kernel
theorem dX12_node_0 : decode cX12_node 0 = .ok (.aload_n 0, 1) := by decide +kernel
theorem dX12_node_1 : decode cX12_node 1 = .ok (.iload_n 1, 1) := by decide +kernel
theorem dX12_node_2 : decode cX12_node 2 = .ok (.invokevirtual 396, 3) := by decide +kernel
theorem dX12_node_5 : decode cX12_node 5 = .ok (.ifCond .ne 5, 3) := by decide +kernel
theorem dX12_node_8 : decode cX12_node 8 = .ok (.iconst (-1), 1) := by decide +kernel
theorem dX12_node_9 : decode cX12_node 9 = .ok (.ireturn, 1) := by decide +kernel
theorem dX12_of_0 : decode cX12_of 0 = .ok (.aload_n 0, 1) := by decide +kernel
theorem dX12_of_1 : decode cX12_of 1 = .ok (.iload_n 1, 1) := by decide +kernel
theorem dX12_of_2 : decode cX12_of 2 = .ok (.iload_n 2, 1) := by decide +kernel
theorem dX12_of_3 : decode cX12_of 3 = .ok (.invokevirtual 548, 3) := by decide +kernel
theorem dX12_of_6 : decode cX12_of 6 = .ok (.ifCond .ne 5, 3) := by decide +kernel
theorem dX12_of_9 : decode cX12_of 9 = .ok (.iconst (-1), 1) := by decide +kernel
theorem dX12_of_10 : decode cX12_of 10 = .ok (.ireturn, 1) := by decide +kernel
theorem dX12_parent_0 : decode cX12_parent 0 = .ok (.aload_n 0, 1) := by decide +kernel
theorem dX12_parent_1 : decode cX12_parent 1 = .ok (.iload_n 1, 1) := by decide +kernel
theorem dX12_parent_2 : decode cX12_parent 2 = .ok (.invokevirtual 396, 3) := by decide +kernel
theorem dX12_parent_5 : decode cX12_parent 5 = .ok (.ifCond .eq 13, 3) := by decide +kernel
theorem dX12_parent_18 : decode cX12_parent 18 = .ok (.iconst (-1), 1) := by decide +kernel
theorem dX12_parent_19 : decode cX12_parent 19 = .ok (.goto 22, 3) := by decide +kernel
theorem dX12_parent_41 : decode cX12_parent 41 = .ok (.ireturn, 1) := by decide +kernel
theorem dX12_print_0 : decode cX12_print 0 = .ok (.aload_n 0, 1) := by decide +kernel
theorem dX12_print_1 : decode cX12_print 1 = .ok (.iload_n 1, 1) := by decide +kernel
theorem dX12_print_2 : decode cX12_print 2 = .ok (.invokevirtual 396, 3) := by decide +kernel
theorem dX12_print_5 : decode cX12_print 5 = .ok (.ifCond .ne 5, 3) := by decide +kernel
theorem dX12_print_8 : decode cX12_print 8 = .ok (.iconst (-1), 1) := by decide +kernel
theorem dX12_print_9 : decode cX12_print 9 = .ok (.ireturn, 1) := by decide +kernel
theorem dX12_put_0 : decode cX12_put 0 = .ok (.aload_n 0, 1) := by decide +kernel
theorem dX12_put_1 : decode cX12_put 1 = .ok (.iload_n 1, 1) := by decide +kernel
theorem dX12_put_2 : decode cX12_put 2 = .ok (.invokevirtual 425, 3) := by decide +kernel
theorem dX12_put_5 : decode cX12_put 5 = .ok (.ifCond .eq 65, 3) := by decide +kernel
theorem dX12_put_70 : decode cX12_put 70 = .ok (.iconst (-1), 1) := by decide +kernel
theorem dX12_put_71 : decode cX12_put 71 = .ok (.ireturn, 1) := by decide +kernel
theorem dX12_quarrel_0 : decode cX12_quarrel 0 = .ok (.iload_n 1, 1) := by decide +kernel
theorem dX12_quarrel_1 : decode cX12_quarrel 1 = .ok (.iconst (-1), 1) := by decide +kernel
theorem dX12_quarrel_2 : decode cX12_quarrel 2 = .ok (.if_icmp .ne 10, 3) := by decide +kernel
theorem dX12_quarrel_5 : decode cX12_quarrel 5 = .ok (.aload_n 0, 1) := by decide +kernel
theorem dX12_quarrel_6 : decode cX12_quarrel 6 = .ok (.getfield 455, 3) := by decide +kernel
theorem dX12_quarrel_9 : decode cX12_quarrel 9 = .ok (.goto 29, 3) := by decide +kernel
theorem dX12_quarrel_12 : decode cX12_quarrel 12 = .ok (.iload_n 1, 1) := by decide +kernel
theorem dX12_quarrel_13 : decode cX12_quarrel 13 = .ok (.i2l, 1) := by decide +kernel
theorem dX12_quarrel_14 : decode cX12_quarrel 14 = .ok (.lconst 0, 1) := by decide +kernel
theorem dX12_quarrel_15 : decode cX12_quarrel 15 = .ok (.aload_n 0, 1) := by decide +kernel
theorem dX12_quarrel_16 : decode cX12_quarrel 16 = .ok (.getfield 455, 3) := by decide +kernel
theorem dX12_quarrel_19 : decode cX12_quarrel 19 = .ok (.iconst 1, 1) := by decide +kernel
theorem dX12_quarrel_20 : decode cX12_quarrel 20 = .ok (.isub, 1) := by decide +kernel
theorem dX12_quarrel_21 : decode cX12_quarrel 21 = .ok (.i2l, 1) := by decide +kernel
theorem dX12_quarrel_22 : decode cX12_quarrel 22 = .ok (.invokestatic 171, 3) := by decide +kernel
theorem dX12_quarrel_25 : decode cX12_quarrel 25 = .ok (.ifCond .eq 12, 3) := by decide +kernel
theorem dX12_quarrel_37 : decode cX12_quarrel 37 = .ok (.iconst (-1), 1) := by decide +kernel
theorem dX12_quarrel_38 : decode cX12_quarrel 38 = .ok (.ireturn, 1) := by decide +kernel
theorem dX12_readsGrammar_0 : decode cX12_readsGrammar 0 = .ok (.aload_n 0, 1) := by decide +kernel
theorem dX12_readsGrammar_1 : decode cX12_readsGrammar 1 = .ok (.iconst (-1), 1) := by decide +kernel
theorem dX12_readsGrammar_2 : decode cX12_readsGrammar 2 = .ok (.putfield 193, 3) := by decide +kernel
theorem dX12_readsGrammar_5 : decode cX12_readsGrammar 5 = .ok (.aload_n 0, 1) := by decide +kernel
theorem dX12_readsGrammar_6 : decode cX12_readsGrammar 6 = .ok (.iconst 0, 1) := by decide +kernel
theorem dX12_readsGrammar_7 : decode cX12_readsGrammar 7 = .ok (.putfield 227, 3) := by decide +kernel
theorem dX12_readsGrammar_10 : decode cX12_readsGrammar 10 = .ok (.iconst 0, 1) := by decide +kernel
theorem dX12_readsGrammar_11 : decode cX12_readsGrammar 11 = .ok (.istore_n 1, 1) := by decide +kernel
theorem dX12_readsGrammar_12 : decode cX12_readsGrammar 12 = .ok (.iload_n 1, 1) := by decide +kernel
theorem dX12_readsGrammar_13 : decode cX12_readsGrammar 13 = .ok (.aload_n 0, 1) := by decide +kernel
theorem dX12_readsGrammar_14 : decode cX12_readsGrammar 14 = .ok (.getfield 163, 3) := by decide +kernel
theorem dX12_readsGrammar_17 : decode cX12_readsGrammar 17 = .ok (.if_icmp .ge 21, 3) := by decide +kernel
theorem dX12_readsGrammar_38 : decode cX12_readsGrammar 38 = .ok (.aload_n 0, 1) := by decide +kernel
theorem dX12_readsGrammar_39 : decode cX12_readsGrammar 39 = .ok (.iconst 0, 1) := by decide +kernel
theorem dX12_readsGrammar_40 : decode cX12_readsGrammar 40 = .ok (.putfield 179, 3) := by decide +kernel
theorem dX12_readsGrammar_43 : decode cX12_readsGrammar 43 = .ok (.aload_n 0, 1) := by decide +kernel
theorem dX12_readsGrammar_44 : decode cX12_readsGrammar 44 = .ok (.invokevirtual 190, 3) := by decide +kernel
theorem dX12_readsGrammar_47 : decode cX12_readsGrammar 47 = .ok (.aload_n 0, 1) := by decide +kernel
theorem dX12_readsGrammar_48 : decode cX12_readsGrammar 48 = .ok (.invokevirtual 248, 3) := by decide +kernel
theorem dX12_readsGrammar_51 : decode cX12_readsGrammar 51 = .ok (.istore_n 1, 1) := by decide +kernel
theorem dX12_readsGrammar_52 : decode cX12_readsGrammar 52 = .ok (.iload_n 1, 1) := by decide +kernel
theorem dX12_readsGrammar_53 : decode cX12_readsGrammar 53 = .ok (.ifCond .eq 22, 3) := by decide +kernel
theorem dX12_readsGrammar_75 : decode cX12_readsGrammar 75 = .ok (.iload_n 1, 1) := by decide +kernel
theorem dX12_readsGrammar_76 : decode cX12_readsGrammar 76 = .ok (.ifCond .ne 4, 3) := by decide +kernel
theorem dX12_readsGrammar_79 : decode cX12_readsGrammar 79 = .ok (.return_, 1) := by decide +kernel
theorem dX12_readsNode_0 : decode cX12_readsNode 0 = .ok (.aload_n 0, 1) := by decide +kernel
theorem dX12_readsNode_1 : decode cX12_readsNode 1 = .ok (.getfield 179, 3) := by decide +kernel
theorem dX12_readsNode_4 : decode cX12_readsNode 4 = .ok (.aload_n 0, 1) := by decide +kernel
theorem dX12_readsNode_5 : decode cX12_readsNode 5 = .ok (.getfield 163, 3) := by decide +kernel
theorem dX12_readsNode_8 : decode cX12_readsNode 8 = .ok (.if_icmp .ge 34, 3) := by decide +kernel
theorem dX12_readsNode_42 : decode cX12_readsNode 42 = .ok (.iconst (-1), 1) := by decide +kernel
theorem dX12_readsNode_43 : decode cX12_readsNode 43 = .ok (.istore_n 3, 1) := by decide +kernel
theorem dX12_readsNode_44 : decode cX12_readsNode 44 = .ok (.iload_n 3, 1) := by decide +kernel
theorem dX12_readsNode_45 : decode cX12_readsNode 45 = .ok (.iconst (-1), 1) := by decide +kernel
theorem dX12_readsNode_46 : decode cX12_readsNode 46 = .ok (.if_icmp .eq 12, 3) := by decide +kernel
theorem dX12_readsNode_58 : decode cX12_readsNode 58 = .ok (.aload_n 0, 1) := by decide +kernel
theorem dX12_readsNode_59 : decode cX12_readsNode 59 = .ok (.invokevirtual 196, 3) := by decide +kernel
theorem dX12_readsNode_62 : decode cX12_readsNode 62 = .ok (.ireturn, 1) := by decide +kernel
theorem dX12_readsTree_0 : decode cX12_readsTree 0 = .ok (.aload_n 0, 1) := by decide +kernel
theorem dX12_readsTree_1 : decode cX12_readsTree 1 = .ok (.iconst (-1), 1) := by decide +kernel
theorem dX12_readsTree_2 : decode cX12_readsTree 2 = .ok (.putfield 193, 3) := by decide +kernel
theorem dX12_readsTree_5 : decode cX12_readsTree 5 = .ok (.aload_n 0, 1) := by decide +kernel
theorem dX12_readsTree_6 : decode cX12_readsTree 6 = .ok (.iconst 0, 1) := by decide +kernel
theorem dX12_readsTree_7 : decode cX12_readsTree 7 = .ok (.putfield 258, 3) := by decide +kernel
theorem dX12_readsTree_10 : decode cX12_readsTree 10 = .ok (.iconst 0, 1) := by decide +kernel
theorem dX12_readsTree_11 : decode cX12_readsTree 11 = .ok (.istore_n 1, 1) := by decide +kernel
theorem dX12_readsTree_12 : decode cX12_readsTree 12 = .ok (.iload_n 1, 1) := by decide +kernel
theorem dX12_readsTree_13 : decode cX12_readsTree 13 = .ok (.sipush 150, 3) := by decide +kernel
theorem dX12_readsTree_16 : decode cX12_readsTree 16 = .ok (.if_icmp .ge 19, 3) := by decide +kernel
theorem dX12_readsTree_19 : decode cX12_readsTree 19 = .ok (.aload_n 0, 1) := by decide +kernel
theorem dX12_readsTree_20 : decode cX12_readsTree 20 = .ok (.getfield 45, 3) := by decide +kernel
theorem dX12_readsTree_23 : decode cX12_readsTree 23 = .ok (.bipush 15, 2) := by decide +kernel
theorem dX12_readsTree_25 : decode cX12_readsTree 25 = .ok (.aaload, 1) := by decide +kernel
theorem dX12_readsTree_26 : decode cX12_readsTree 26 = .ok (.iload_n 1, 1) := by decide +kernel
theorem dX12_readsTree_27 : decode cX12_readsTree 27 = .ok (.iconst 0, 1) := by decide +kernel
theorem dX12_readsTree_28 : decode cX12_readsTree 28 = .ok (.bastore, 1) := by decide +kernel
theorem dX12_readsTree_29 : decode cX12_readsTree 29 = .ok (.iinc 1 1, 3) := by decide +kernel
theorem dX12_readsTree_32 : decode cX12_readsTree 32 = .ok (.goto (-20), 3) := by decide +kernel
theorem dX12_readsTree_35 : decode cX12_readsTree 35 = .ok (.aload_n 0, 1) := by decide +kernel
theorem dX12_readsTree_36 : decode cX12_readsTree 36 = .ok (.iconst 0, 1) := by decide +kernel
theorem dX12_readsTree_37 : decode cX12_readsTree 37 = .ok (.putfield 179, 3) := by decide +kernel
theorem dX12_readsTree_40 : decode cX12_readsTree 40 = .ok (.aload_n 0, 1) := by decide +kernel
theorem dX12_readsTree_41 : decode cX12_readsTree 41 = .ok (.invokevirtual 190, 3) := by decide +kernel
theorem dX12_readsTree_44 : decode cX12_readsTree 44 = .ok (.aload_n 0, 1) := by decide +kernel
theorem dX12_readsTree_45 : decode cX12_readsTree 45 = .ok (.iconst (-1), 1) := by decide +kernel
theorem dX12_readsTree_46 : decode cX12_readsTree 46 = .ok (.iconst 1, 1) := by decide +kernel
theorem dX12_readsTree_47 : decode cX12_readsTree 47 = .ok (.invokevirtual 268, 3) := by decide +kernel
theorem dX12_readsTree_50 : decode cX12_readsTree 50 = .ok (.istore_n 1, 1) := by decide +kernel
theorem dX12_readsTree_51 : decode cX12_readsTree 51 = .ok (.iload_n 1, 1) := by decide +kernel
theorem dX12_readsTree_52 : decode cX12_readsTree 52 = .ok (.ifCond .eq 19, 3) := by decide +kernel
theorem dX12_readsTree_71 : decode cX12_readsTree 71 = .ok (.iload_n 1, 1) := by decide +kernel
theorem dX12_readsTree_72 : decode cX12_readsTree 72 = .ok (.ifCond .eq 7, 3) := by decide +kernel
theorem dX12_readsTree_79 : decode cX12_readsTree 79 = .ok (.return_, 1) := by decide +kernel
theorem dX12_rename_0 : decode cX12_rename 0 = .ok (.aload_n 0, 1) := by decide +kernel
theorem dX12_rename_1 : decode cX12_rename 1 = .ok (.iload_n 1, 1) := by decide +kernel
theorem dX12_rename_2 : decode cX12_rename 2 = .ok (.invokevirtual 425, 3) := by decide +kernel
theorem dX12_rename_5 : decode cX12_rename 5 = .ok (.ifCond .eq 27, 3) := by decide +kernel
theorem dX12_rename_32 : decode cX12_rename 32 = .ok (.iconst 0, 1) := by decide +kernel
theorem dX12_rename_33 : decode cX12_rename 33 = .ok (.ireturn, 1) := by decide +kernel
theorem dX12_ruleRead_0 : decode cX12_ruleRead 0 = .ok (.aload_n 0, 1) := by decide +kernel
theorem dX12_ruleRead_1 : decode cX12_ruleRead 1 = .ok (.getfield 227, 3) := by decide +kernel
theorem dX12_ruleRead_4 : decode cX12_ruleRead 4 = .ok (.bipush 10, 2) := by decide +kernel
theorem dX12_ruleRead_6 : decode cX12_ruleRead 6 = .ok (.if_icmp .eq 31, 3) := by decide +kernel
theorem dX12_ruleRead_9 : decode cX12_ruleRead 9 = .ok (.aload_n 0, 1) := by decide +kernel
theorem dX12_ruleRead_10 : decode cX12_ruleRead 10 = .ok (.invokevirtual 234, 3) := by decide +kernel
theorem dX12_ruleRead_13 : decode cX12_ruleRead 13 = .ok (.ifCond .eq 24, 3) := by decide +kernel
theorem dX12_ruleRead_37 : decode cX12_ruleRead 37 = .ok (.aload_n 0, 1) := by decide +kernel
theorem dX12_ruleRead_38 : decode cX12_ruleRead 38 = .ok (.invokevirtual 196, 3) := by decide +kernel
theorem dX12_ruleRead_41 : decode cX12_ruleRead 41 = .ok (.ireturn, 1) := by decide +kernel
theorem dX12_same_0 : decode cX12_same 0 = .ok (.aload_n 0, 1) := by decide +kernel
theorem dX12_same_1 : decode cX12_same 1 = .ok (.iload_n 1, 1) := by decide +kernel
theorem dX12_same_2 : decode cX12_same 2 = .ok (.invokevirtual 396, 3) := by decide +kernel
theorem dX12_same_5 : decode cX12_same 5 = .ok (.ifCond .eq 34, 3) := by decide +kernel
theorem dX12_same_39 : decode cX12_same 39 = .ok (.iconst 0, 1) := by decide +kernel
theorem dX12_same_40 : decode cX12_same 40 = .ok (.ireturn, 1) := by decide +kernel
theorem dX12_settle_0 : decode cX12_settle 0 = .ok (.iload_n 1, 1) := by decide +kernel
theorem dX12_settle_1 : decode cX12_settle 1 = .ok (.i2l, 1) := by decide +kernel
theorem dX12_settle_2 : decode cX12_settle 2 = .ok (.lconst 0, 1) := by decide +kernel
theorem dX12_settle_3 : decode cX12_settle 3 = .ok (.aload_n 0, 1) := by decide +kernel
theorem dX12_settle_4 : decode cX12_settle 4 = .ok (.getfield 336, 3) := by decide +kernel
theorem dX12_settle_7 : decode cX12_settle 7 = .ok (.iconst 1, 1) := by decide +kernel
theorem dX12_settle_8 : decode cX12_settle 8 = .ok (.isub, 1) := by decide +kernel
theorem dX12_settle_9 : decode cX12_settle 9 = .ok (.i2l, 1) := by decide +kernel
theorem dX12_settle_10 : decode cX12_settle 10 = .ok (.invokestatic 171, 3) := by decide +kernel
theorem dX12_settle_13 : decode cX12_settle 13 = .ok (.ifCond .eq 23, 3) := by decide +kernel
theorem dX12_settle_36 : decode cX12_settle 36 = .ok (.iconst 0, 1) := by decide +kernel
theorem dX12_settle_37 : decode cX12_settle 37 = .ok (.ireturn, 1) := by decide +kernel
theorem dX12_skips_0 : decode cX12_skips 0 = .ok (.aload_n 0, 1) := by decide +kernel
theorem dX12_skips_1 : decode cX12_skips 1 = .ok (.getfield 179, 3) := by decide +kernel
theorem dX12_skips_4 : decode cX12_skips 4 = .ok (.aload_n 0, 1) := by decide +kernel
theorem dX12_skips_5 : decode cX12_skips 5 = .ok (.getfield 163, 3) := by decide +kernel
theorem dX12_skips_8 : decode cX12_skips 8 = .ok (.if_icmp .ge 44, 3) := by decide +kernel
theorem dX12_skips_52 : decode cX12_skips 52 = .ok (.aload_n 0, 1) := by decide +kernel
theorem dX12_skips_53 : decode cX12_skips 53 = .ok (.aload_n 0, 1) := by decide +kernel
theorem dX12_skips_54 : decode cX12_skips 54 = .ok (.getfield 179, 3) := by decide +kernel
theorem dX12_skips_57 : decode cX12_skips 57 = .ok (.putfield 182, 3) := by decide +kernel
theorem dX12_skips_60 : decode cX12_skips 60 = .ok (.aload_n 0, 1) := by decide +kernel
theorem dX12_skips_61 : decode cX12_skips 61 = .ok (.getfield 179, 3) := by decide +kernel
theorem dX12_skips_64 : decode cX12_skips 64 = .ok (.aload_n 0, 1) := by decide +kernel
theorem dX12_skips_65 : decode cX12_skips 65 = .ok (.getfield 163, 3) := by decide +kernel
theorem dX12_skips_68 : decode cX12_skips 68 = .ok (.if_icmp .ne 4, 3) := by decide +kernel
theorem dX12_skips_71 : decode cX12_skips 71 = .ok (.return_, 1) := by decide +kernel
theorem dX12_take_0 : decode cX12_take 0 = .ok (.aload_n 0, 1) := by decide +kernel
theorem dX12_take_1 : decode cX12_take 1 = .ok (.iload_n 1, 1) := by decide +kernel
theorem dX12_take_2 : decode cX12_take 2 = .ok (.invokevirtual 425, 3) := by decide +kernel
theorem dX12_take_5 : decode cX12_take 5 = .ok (.ifCond .eq 26, 3) := by decide +kernel
theorem dX12_take_31 : decode cX12_take 31 = .ok (.iconst 0, 1) := by decide +kernel
theorem dX12_take_32 : decode cX12_take 32 = .ok (.ireturn, 1) := by decide +kernel
theorem dX12_unsettle_0 : decode cX12_unsettle 0 = .ok (.aload_n 0, 1) := by decide +kernel
theorem dX12_unsettle_1 : decode cX12_unsettle 1 = .ok (.getfield 447, 3) := by decide +kernel
theorem dX12_unsettle_4 : decode cX12_unsettle 4 = .ok (.istore_n 1, 1) := by decide +kernel
theorem dX12_unsettle_5 : decode cX12_unsettle 5 = .ok (.aload_n 0, 1) := by decide +kernel
theorem dX12_unsettle_6 : decode cX12_unsettle 6 = .ok (.iconst 0, 1) := by decide +kernel
theorem dX12_unsettle_7 : decode cX12_unsettle 7 = .ok (.putfield 447, 3) := by decide +kernel
theorem dX12_unsettle_10 : decode cX12_unsettle 10 = .ok (.iload_n 1, 1) := by decide +kernel
theorem dX12_unsettle_11 : decode cX12_unsettle 11 = .ok (.ireturn, 1) := by decide +kernel
theorem dX12_word_0 : decode cX12_word 0 = .ok (.aload_n 0, 1) := by decide +kernel
theorem dX12_word_1 : decode cX12_word 1 = .ok (.iload_n 1, 1) := by decide +kernel
theorem dX12_word_2 : decode cX12_word 2 = .ok (.iload_n 2, 1) := by decide +kernel
theorem dX12_word_3 : decode cX12_word 3 = .ok (.invokevirtual 548, 3) := by decide +kernel
theorem dX12_word_6 : decode cX12_word 6 = .ok (.ifCond .eq 14, 3) := by decide +kernel
theorem dX12_word_20 : decode cX12_word 20 = .ok (.lconst 0, 1) := by decide +kernel
theorem dX12_word_21 : decode cX12_word 21 = .ok (.lreturn, 1) := by decide +kernel
theorem dX12_writer_0 : decode cX12_writer 0 = .ok (.iload_n 1, 1) := by decide +kernel
theorem dX12_writer_1 : decode cX12_writer 1 = .ok (.i2l, 1) := by decide +kernel
theorem dX12_writer_2 : decode cX12_writer 2 = .ok (.lconst 0, 1) := by decide +kernel
theorem dX12_writer_3 : decode cX12_writer 3 = .ok (.aload_n 0, 1) := by decide +kernel
theorem dX12_writer_4 : decode cX12_writer 4 = .ok (.getfield 336, 3) := by decide +kernel
theorem dX12_writer_7 : decode cX12_writer 7 = .ok (.iconst 1, 1) := by decide +kernel
theorem dX12_writer_8 : decode cX12_writer 8 = .ok (.isub, 1) := by decide +kernel
theorem dX12_writer_9 : decode cX12_writer 9 = .ok (.i2l, 1) := by decide +kernel
theorem dX12_writer_10 : decode cX12_writer 10 = .ok (.invokestatic 171, 3) := by decide +kernel
theorem dX12_writer_13 : decode cX12_writer 13 = .ok (.ifCond .eq 12, 3) := by decide +kernel
theorem dX12_writer_25 : decode cX12_writer 25 = .ok (.iconst (-1), 1) := by decide +kernel
theorem dX12_writer_26 : decode cX12_writer 26 = .ok (.ireturn, 1) := by decide +kernel
theorem dX1_comesFrom_0 : decode cX1_comesFrom 0 = .ok (.aload_n 0, 1) := by decide +kernel
theorem dX1_comesFrom_1 : decode cX1_comesFrom 1 = .ok (.iload_n 2, 1) := by decide +kernel
theorem dX1_comesFrom_2 : decode cX1_comesFrom 2 = .ok (.invokevirtual 31, 3) := by decide +kernel
theorem dX1_comesFrom_5 : decode cX1_comesFrom 5 = .ok (.ifCond .eq 19, 3) := by decide +kernel
theorem dX1_comesFrom_24 : decode cX1_comesFrom 24 = .ok (.iconst 0, 1) := by decide +kernel
theorem dX1_comesFrom_25 : decode cX1_comesFrom 25 = .ok (.ireturn, 1) := by decide +kernel
theorem dX1_common_0 : decode cX1_common 0 = .ok (.aload_n 0, 1) := by decide +kernel
theorem dX1_common_1 : decode cX1_common 1 = .ok (.iload_n 1, 1) := by decide +kernel
theorem dX1_common_2 : decode cX1_common 2 = .ok (.invokevirtual 59, 3) := by decide +kernel
theorem dX1_common_5 : decode cX1_common 5 = .ok (.aload_n 0, 1) := by decide +kernel
theorem dX1_common_6 : decode cX1_common 6 = .ok (.iload_n 2, 1) := by decide +kernel
theorem dX1_common_7 : decode cX1_common 7 = .ok (.invokevirtual 59, 3) := by decide +kernel
theorem dX1_common_10 : decode cX1_common 10 = .ok (.iand, 1) := by decide +kernel
theorem dX1_common_11 : decode cX1_common 11 = .ok (.ireturn, 1) := by decide +kernel
theorem dX1_fromsOf_0 : decode cX1_fromsOf 0 = .ok (.aload_n 0, 1) := by decide +kernel
theorem dX1_fromsOf_1 : decode cX1_fromsOf 1 = .ok (.iload_n 1, 1) := by decide +kernel
theorem dX1_fromsOf_2 : decode cX1_fromsOf 2 = .ok (.invokevirtual 31, 3) := by decide +kernel
theorem dX1_fromsOf_5 : decode cX1_fromsOf 5 = .ok (.ifCond .eq 12, 3) := by decide +kernel
theorem dX1_fromsOf_17 : decode cX1_fromsOf 17 = .ok (.iconst 0, 1) := by decide +kernel
theorem dX1_fromsOf_18 : decode cX1_fromsOf 18 = .ok (.ireturn, 1) := by decide +kernel
theorem dX1_has_0 : decode cX1_has 0 = .ok (.iload_n 1, 1) := by decide +kernel
theorem dX1_has_1 : decode cX1_has 1 = .ok (.ifCond .lt 15, 3) := by decide +kernel
theorem dX1_has_4 : decode cX1_has 4 = .ok (.iload_n 1, 1) := by decide +kernel
theorem dX1_has_5 : decode cX1_has 5 = .ok (.aload_n 0, 1) := by decide +kernel
theorem dX1_has_6 : decode cX1_has 6 = .ok (.getfield 27, 3) := by decide +kernel
theorem dX1_has_9 : decode cX1_has 9 = .ok (.if_icmp .ge 7, 3) := by decide +kernel
theorem dX1_has_16 : decode cX1_has 16 = .ok (.iconst 0, 1) := by decide +kernel
theorem dX1_has_17 : decode cX1_has 17 = .ok (.ireturn, 1) := by decide +kernel
theorem dX1_init_0 : decode cX1_init 0 = .ok (.aload_n 0, 1) := by decide +kernel
theorem dX1_init_1 : decode cX1_init 1 = .ok (.invokespecial 3, 3) := by decide +kernel
theorem dX1_init_4 : decode cX1_init 4 = .ok (.aload_n 0, 1) := by decide +kernel
theorem dX1_init_5 : decode cX1_init 5 = .ok (.bipush 12, 2) := by decide +kernel
theorem dX1_init_7 : decode cX1_init 7 = .ok (.anewarray 9, 3) := by decide +kernel
theorem dX1_init_10 : decode cX1_init 10 = .ok (.putfield 11, 3) := by decide +kernel
theorem dX1_init_13 : decode cX1_init 13 = .ok (.aload_n 0, 1) := by decide +kernel
theorem dX1_init_14 : decode cX1_init 14 = .ok (.bipush 12, 2) := by decide +kernel
theorem dX1_init_16 : decode cX1_init 16 = .ok (.newarray .int, 2) := by decide +kernel
theorem dX1_init_18 : decode cX1_init 18 = .ok (.putfield 17, 3) := by decide +kernel
theorem dX1_init_21 : decode cX1_init 21 = .ok (.aload_n 0, 1) := by decide +kernel
theorem dX1_init_22 : decode cX1_init 22 = .ok (.bipush 12, 2) := by decide +kernel
theorem dX1_init_24 : decode cX1_init 24 = .ok (.newarray .int, 2) := by decide +kernel
theorem dX1_init_26 : decode cX1_init 26 = .ok (.putfield 21, 3) := by decide +kernel
theorem dX1_init_29 : decode cX1_init 29 = .ok (.aload_n 0, 1) := by decide +kernel
theorem dX1_init_30 : decode cX1_init 30 = .ok (.bipush 12, 2) := by decide +kernel
theorem dX1_init_32 : decode cX1_init 32 = .ok (.newarray .int, 2) := by decide +kernel
theorem dX1_init_34 : decode cX1_init 34 = .ok (.putfield 24, 3) := by decide +kernel
theorem dX1_init_37 : decode cX1_init 37 = .ok (.return_, 1) := by decide +kernel
theorem dX1_isFull_0 : decode cX1_isFull 0 = .ok (.aload_n 0, 1) := by decide +kernel
theorem dX1_isFull_1 : decode cX1_isFull 1 = .ok (.getfield 27, 3) := by decide +kernel
theorem dX1_isFull_4 : decode cX1_isFull 4 = .ok (.bipush 12, 2) := by decide +kernel
theorem dX1_isFull_6 : decode cX1_isFull 6 = .ok (.if_icmp .lt 7, 3) := by decide +kernel
theorem dX1_isFull_13 : decode cX1_isFull 13 = .ok (.iconst 0, 1) := by decide +kernel
theorem dX1_isFull_14 : decode cX1_isFull 14 = .ok (.ireturn, 1) := by decide +kernel
theorem dX1_latest_0 : decode cX1_latest 0 = .ok (.iload_n 1, 1) := by decide +kernel
theorem dX1_latest_1 : decode cX1_latest 1 = .ok (.istore_n 2, 1) := by decide +kernel
theorem dX1_latest_2 : decode cX1_latest 2 = .ok (.iconst 0, 1) := by decide +kernel
theorem dX1_latest_3 : decode cX1_latest 3 = .ok (.istore_n 3, 1) := by decide +kernel
theorem dX1_latest_4 : decode cX1_latest 4 = .ok (.iload_n 3, 1) := by decide +kernel
theorem dX1_latest_5 : decode cX1_latest 5 = .ok (.aload_n 0, 1) := by decide +kernel
theorem dX1_latest_6 : decode cX1_latest 6 = .ok (.getfield 27, 3) := by decide +kernel
theorem dX1_latest_9 : decode cX1_latest 9 = .ok (.if_icmp .ge 34, 3) := by decide +kernel
theorem dX1_latest_43 : decode cX1_latest 43 = .ok (.iload_n 2, 1) := by decide +kernel
theorem dX1_latest_44 : decode cX1_latest 44 = .ok (.ireturn, 1) := by decide +kernel
theorem dX1_leastOf_0 : decode cX1_leastOf 0 = .ok (.iconst 0, 1) := by decide +kernel
theorem dX1_leastOf_1 : decode cX1_leastOf 1 = .ok (.istore_n 2, 1) := by decide +kernel
theorem dX1_leastOf_2 : decode cX1_leastOf 2 = .ok (.iload_n 2, 1) := by decide +kernel
theorem dX1_leastOf_3 : decode cX1_leastOf 3 = .ok (.aload_n 0, 1) := by decide +kernel
theorem dX1_leastOf_4 : decode cX1_leastOf 4 = .ok (.getfield 27, 3) := by decide +kernel
theorem dX1_leastOf_7 : decode cX1_leastOf 7 = .ok (.if_icmp .ge 19, 3) := by decide +kernel
theorem dX1_leastOf_26 : decode cX1_leastOf 26 = .ok (.iconst (-1), 1) := by decide +kernel
theorem dX1_leastOf_27 : decode cX1_leastOf 27 = .ok (.ireturn, 1) := by decide +kernel
theorem dX1_onlyParent_0 : decode cX1_onlyParent 0 = .ok (.aload_n 0, 1) := by decide +kernel
theorem dX1_onlyParent_1 : decode cX1_onlyParent 1 = .ok (.iload_n 1, 1) := by decide +kernel
theorem dX1_onlyParent_2 : decode cX1_onlyParent 2 = .ok (.invokevirtual 31, 3) := by decide +kernel
theorem dX1_onlyParent_5 : decode cX1_onlyParent 5 = .ok (.ifCond .eq 22, 3) := by decide +kernel
theorem dX1_onlyParent_27 : decode cX1_onlyParent 27 = .ok (.iconst (-1), 1) := by decide +kernel
theorem dX1_onlyParent_28 : decode cX1_onlyParent 28 = .ok (.ireturn, 1) := by decide +kernel
theorem dX1_treeOf_0 : decode cX1_treeOf 0 = .ok (.aload_n 0, 1) := by decide +kernel
theorem dX1_treeOf_1 : decode cX1_treeOf 1 = .ok (.iload_n 1, 1) := by decide +kernel
theorem dX1_treeOf_2 : decode cX1_treeOf 2 = .ok (.invokevirtual 31, 3) := by decide +kernel
theorem dX1_treeOf_5 : decode cX1_treeOf 5 = .ok (.ifCond .eq 12, 3) := by decide +kernel
theorem dX1_treeOf_17 : decode cX1_treeOf 17 = .ok (.aconst_null, 1) := by decide +kernel
theorem dX1_treeOf_18 : decode cX1_treeOf 18 = .ok (.areturn, 1) := by decide +kernel
theorem dX2_init_0 : decode cX2_init 0 = .ok (.aload_n 0, 1) := by decide +kernel
theorem dX2_init_1 : decode cX2_init 1 = .ok (.invokespecial 3, 3) := by decide +kernel
theorem dX2_init_4 : decode cX2_init 4 = .ok (.aload_n 0, 1) := by decide +kernel
theorem dX2_init_5 : decode cX2_init 5 = .ok (.sipush 500, 3) := by decide +kernel
theorem dX2_init_8 : decode cX2_init 8 = .ok (.newarray .int, 2) := by decide +kernel
theorem dX2_init_10 : decode cX2_init 10 = .ok (.putfield 9, 3) := by decide +kernel
theorem dX2_init_13 : decode cX2_init 13 = .ok (.aload_n 0, 1) := by decide +kernel
theorem dX2_init_14 : decode cX2_init 14 = .ok (.bipush 10, 2) := by decide +kernel
theorem dX2_init_16 : decode cX2_init 16 = .ok (.newarray .int, 2) := by decide +kernel
theorem dX2_init_18 : decode cX2_init 18 = .ok (.putfield 15, 3) := by decide +kernel
theorem dX2_init_21 : decode cX2_init 21 = .ok (.aload_n 0, 1) := by decide +kernel
theorem dX2_init_22 : decode cX2_init 22 = .ok (.bipush 10, 2) := by decide +kernel
theorem dX2_init_24 : decode cX2_init 24 = .ok (.newarray .int, 2) := by decide +kernel
theorem dX2_init_26 : decode cX2_init 26 = .ok (.putfield 18, 3) := by decide +kernel
theorem dX2_init_29 : decode cX2_init 29 = .ok (.aload_n 0, 1) := by decide +kernel
theorem dX2_init_30 : decode cX2_init 30 = .ok (.bipush 10, 2) := by decide +kernel
theorem dX2_init_32 : decode cX2_init 32 = .ok (.newarray .int, 2) := by decide +kernel
theorem dX2_init_34 : decode cX2_init 34 = .ok (.putfield 21, 3) := by decide +kernel
theorem dX2_init_37 : decode cX2_init 37 = .ok (.aload_n 0, 1) := by decide +kernel
theorem dX2_init_38 : decode cX2_init 38 = .ok (.bipush 10, 2) := by decide +kernel
theorem dX2_init_40 : decode cX2_init 40 = .ok (.newarray .int, 2) := by decide +kernel
theorem dX2_init_42 : decode cX2_init 42 = .ok (.putfield 24, 3) := by decide +kernel
theorem dX2_init_45 : decode cX2_init 45 = .ok (.aload_n 0, 1) := by decide +kernel
theorem dX2_init_46 : decode cX2_init 46 = .ok (.bipush 10, 2) := by decide +kernel
theorem dX2_init_48 : decode cX2_init 48 = .ok (.newarray .int, 2) := by decide +kernel
theorem dX2_init_50 : decode cX2_init 50 = .ok (.putfield 27, 3) := by decide +kernel
theorem dX2_init_53 : decode cX2_init 53 = .ok (.aload_n 0, 1) := by decide +kernel
theorem dX2_init_54 : decode cX2_init 54 = .ok (.sipush 500, 3) := by decide +kernel
theorem dX2_init_57 : decode cX2_init 57 = .ok (.newarray .int, 2) := by decide +kernel
theorem dX2_init_59 : decode cX2_init 59 = .ok (.putfield 30, 3) := by decide +kernel
theorem dX2_init_62 : decode cX2_init 62 = .ok (.aload_n 0, 1) := by decide +kernel
theorem dX2_init_63 : decode cX2_init 63 = .ok (.sipush 500, 3) := by decide +kernel
theorem dX2_init_66 : decode cX2_init 66 = .ok (.newarray .int, 2) := by decide +kernel
theorem dX2_init_68 : decode cX2_init 68 = .ok (.putfield 33, 3) := by decide +kernel
theorem dX2_init_71 : decode cX2_init 71 = .ok (.aload_n 0, 1) := by decide +kernel
theorem dX2_init_72 : decode cX2_init 72 = .ok (.sipush 500, 3) := by decide +kernel
theorem dX2_init_75 : decode cX2_init 75 = .ok (.newarray .int, 2) := by decide +kernel
theorem dX2_init_77 : decode cX2_init 77 = .ok (.putfield 36, 3) := by decide +kernel
theorem dX2_init_80 : decode cX2_init 80 = .ok (.aload_n 0, 1) := by decide +kernel
theorem dX2_init_81 : decode cX2_init 81 = .ok (.sipush 500, 3) := by decide +kernel
theorem dX2_init_84 : decode cX2_init 84 = .ok (.newarray .int, 2) := by decide +kernel
theorem dX2_init_86 : decode cX2_init 86 = .ok (.putfield 39, 3) := by decide +kernel
theorem dX2_init_89 : decode cX2_init 89 = .ok (.aload_n 0, 1) := by decide +kernel
theorem dX2_init_90 : decode cX2_init 90 = .ok (.sipush 501, 3) := by decide +kernel
theorem dX2_init_93 : decode cX2_init 93 = .ok (.newarray .int, 2) := by decide +kernel
theorem dX2_init_95 : decode cX2_init 95 = .ok (.putfield 42, 3) := by decide +kernel
theorem dX2_init_98 : decode cX2_init 98 = .ok (.return_, 1) := by decide +kernel
theorem dX2_kindAt_0 : decode cX2_kindAt 0 = .ok (.aload_n 0, 1) := by decide +kernel
theorem dX2_kindAt_1 : decode cX2_kindAt 1 = .ok (.aload_n 1, 1) := by decide +kernel
theorem dX2_kindAt_2 : decode cX2_kindAt 2 = .ok (.getfield 55, 3) := by decide +kernel
theorem dX2_kindAt_5 : decode cX2_kindAt 5 = .ok (.aload_n 1, 1) := by decide +kernel
theorem dX2_kindAt_6 : decode cX2_kindAt 6 = .ok (.getfield 88, 3) := by decide +kernel
theorem dX2_kindAt_9 : decode cX2_kindAt 9 = .ok (.aload_n 1, 1) := by decide +kernel
theorem dX2_kindAt_10 : decode cX2_kindAt 10 = .ok (.getfield 91, 3) := by decide +kernel
theorem dX2_kindAt_13 : decode cX2_kindAt 13 = .ok (.invokevirtual 98, 3) := by decide +kernel
theorem dX2_kindAt_16 : decode cX2_kindAt 16 = .ok (.ireturn, 1) := by decide +kernel
theorem dX2_kindOf_0 : decode cX2_kindOf 0 = .ok (.iconst 0, 1) := by decide +kernel
theorem dX2_kindOf_1 : decode cX2_kindOf 1 = .ok (.istore 4, 2) := by decide +kernel
theorem dX2_kindOf_3 : decode cX2_kindOf 3 = .ok (.iload 4, 2) := by decide +kernel
theorem dX2_kindOf_5 : decode cX2_kindOf 5 = .ok (.aload_n 0, 1) := by decide +kernel
theorem dX2_kindOf_6 : decode cX2_kindOf 6 = .ok (.getfield 45, 3) := by decide +kernel
theorem dX2_kindOf_9 : decode cX2_kindOf 9 = .ok (.if_icmp .ge 24, 3) := by decide +kernel
theorem dX2_kindOf_33 : decode cX2_kindOf 33 = .ok (.iconst (-1), 1) := by decide +kernel
theorem dX2_kindOf_34 : decode cX2_kindOf 34 = .ok (.ireturn, 1) := by decide +kernel
theorem dX2_readFrom_0 : decode cX2_readFrom 0 = .ok (.aload_n 1, 1) := by decide +kernel
theorem dX2_readFrom_1 : decode cX2_readFrom 1 = .ok (.getfield 55, 3) := by decide +kernel
theorem dX2_readFrom_4 : decode cX2_readFrom 4 = .ok (.iconst 0, 1) := by decide +kernel
theorem dX2_readFrom_5 : decode cX2_readFrom 5 = .ok (.aload_n 0, 1) := by decide +kernel
theorem dX2_readFrom_6 : decode cX2_readFrom 6 = .ok (.getfield 9, 3) := by decide +kernel
theorem dX2_readFrom_9 : decode cX2_readFrom 9 = .ok (.iconst 0, 1) := by decide +kernel
theorem dX2_readFrom_10 : decode cX2_readFrom 10 = .ok (.aload_n 1, 1) := by decide +kernel
theorem dX2_readFrom_11 : decode cX2_readFrom 11 = .ok (.getfield 56, 3) := by decide +kernel
theorem dX2_readFrom_14 : decode cX2_readFrom 14 = .ok (.invokestatic 59, 3) := by decide +kernel
theorem dX2_readFrom_17 : decode cX2_readFrom 17 = .ok (.aload_n 0, 1) := by decide +kernel
theorem dX2_readFrom_18 : decode cX2_readFrom 18 = .ok (.iconst 0, 1) := by decide +kernel
theorem dX2_readFrom_19 : decode cX2_readFrom 19 = .ok (.putfield 45, 3) := by decide +kernel
theorem dX2_readFrom_22 : decode cX2_readFrom 22 = .ok (.aload_n 0, 1) := by decide +kernel
theorem dX2_readFrom_23 : decode cX2_readFrom 23 = .ok (.iconst 0, 1) := by decide +kernel
theorem dX2_readFrom_24 : decode cX2_readFrom 24 = .ok (.putfield 65, 3) := by decide +kernel
theorem dX2_readFrom_27 : decode cX2_readFrom 27 = .ok (.aload_n 1, 1) := by decide +kernel
theorem dX2_readFrom_28 : decode cX2_readFrom 28 = .ok (.invokevirtual 68, 3) := by decide +kernel
theorem dX2_readFrom_31 : decode cX2_readFrom 31 = .ok (.aload_n 1, 1) := by decide +kernel
theorem dX2_readFrom_32 : decode cX2_readFrom 32 = .ok (.invokevirtual 71, 3) := by decide +kernel
theorem dX2_readFrom_35 : decode cX2_readFrom 35 = .ok (.iconst 0, 1) := by decide +kernel
theorem dX2_readFrom_36 : decode cX2_readFrom 36 = .ok (.istore_n 2, 1) := by decide +kernel
theorem dX2_readFrom_37 : decode cX2_readFrom 37 = .ok (.iload_n 2, 1) := by decide +kernel
theorem dX2_readFrom_38 : decode cX2_readFrom 38 = .ok (.bipush 10, 2) := by decide +kernel
theorem dX2_readFrom_40 : decode cX2_readFrom 40 = .ok (.if_icmp .gt 32, 3) := by decide +kernel
theorem dX2_readFrom_43 : decode cX2_readFrom 43 = .ok (.aload_n 0, 1) := by decide +kernel
theorem dX2_readFrom_44 : decode cX2_readFrom 44 = .ok (.aload_n 1, 1) := by decide +kernel
theorem dX2_readFrom_45 : decode cX2_readFrom 45 = .ok (.invokevirtual 74, 3) := by decide +kernel
theorem dX2_readFrom_48 : decode cX2_readFrom 48 = .ok (.istore_n 3, 1) := by decide +kernel
theorem dX2_readFrom_49 : decode cX2_readFrom 49 = .ok (.iload_n 3, 1) := by decide +kernel
theorem dX2_readFrom_50 : decode cX2_readFrom 50 = .ok (.iconst (-1), 1) := by decide +kernel
theorem dX2_readFrom_51 : decode cX2_readFrom 51 = .ok (.if_icmp .eq 5, 3) := by decide +kernel
theorem dX2_readFrom_54 : decode cX2_readFrom 54 = .ok (.iload_n 3, 1) := by decide +kernel
theorem dX2_readFrom_55 : decode cX2_readFrom 55 = .ok (.ireturn, 1) := by decide +kernel
theorem dX2_readRule_0 : decode cX2_readRule 0 = .ok (.aload_n 1, 1) := by decide +kernel
theorem dX2_readRule_1 : decode cX2_readRule 1 = .ok (.getfield 78, 3) := by decide +kernel
theorem dX2_readRule_4 : decode cX2_readRule 4 = .ok (.iconst 1, 1) := by decide +kernel
theorem dX2_readRule_5 : decode cX2_readRule 5 = .ok (.if_icmp .ne 21, 3) := by decide +kernel
theorem dX2_readRule_26 : decode cX2_readRule 26 = .ok (.aload_n 1, 1) := by decide +kernel
theorem dX2_readRule_27 : decode cX2_readRule 27 = .ok (.getfield 88, 3) := by decide +kernel
theorem dX2_readRule_30 : decode cX2_readRule 30 = .ok (.ireturn, 1) := by decide +kernel
theorem dX3_init_0 : decode cX3_init 0 = .ok (.aload_n 0, 1) := by decide +kernel
theorem dX3_init_1 : decode cX3_init 1 = .ok (.invokespecial 3, 3) := by decide +kernel
theorem dX3_init_4 : decode cX3_init 4 = .ok (.aload_n 0, 1) := by decide +kernel
theorem dX3_init_5 : decode cX3_init 5 = .ok (.bipush 40, 2) := by decide +kernel
theorem dX3_init_7 : decode cX3_init 7 = .ok (.newarray .int, 2) := by decide +kernel
theorem dX3_init_9 : decode cX3_init 9 = .ok (.putfield 9, 3) := by decide +kernel
theorem dX3_init_12 : decode cX3_init 12 = .ok (.aload_n 0, 1) := by decide +kernel
theorem dX3_init_13 : decode cX3_init 13 = .ok (.bipush 40, 2) := by decide +kernel
theorem dX3_init_15 : decode cX3_init 15 = .ok (.newarray .long, 2) := by decide +kernel
theorem dX3_init_17 : decode cX3_init 17 = .ok (.putfield 15, 3) := by decide +kernel
theorem dX3_init_20 : decode cX3_init 20 = .ok (.return_, 1) := by decide +kernel
theorem dX4_init_0 : decode cX4_init 0 = .ok (.aload_n 0, 1) := by decide +kernel
theorem dX4_init_1 : decode cX4_init 1 = .ok (.invokespecial 3, 3) := by decide +kernel
theorem dX4_init_4 : decode cX4_init 4 = .ok (.aload_n 0, 1) := by decide +kernel
theorem dX4_init_5 : decode cX4_init 5 = .ok (.new 9, 3) := by decide +kernel
theorem dX4_init_8 : decode cX4_init 8 = .ok (.dup, 1) := by decide +kernel
theorem dX4_init_9 : decode cX4_init 9 = .ok (.invokespecial 11, 3) := by decide +kernel
theorem dX4_init_12 : decode cX4_init 12 = .ok (.putfield 12, 3) := by decide +kernel
theorem dX4_init_15 : decode cX4_init 15 = .ok (.aload_n 0, 1) := by decide +kernel
theorem dX4_init_16 : decode cX4_init 16 = .ok (.new 9, 3) := by decide +kernel
theorem dX4_init_19 : decode cX4_init 19 = .ok (.dup, 1) := by decide +kernel
theorem dX4_init_20 : decode cX4_init 20 = .ok (.invokespecial 11, 3) := by decide +kernel
theorem dX4_init_23 : decode cX4_init 23 = .ok (.putfield 18, 3) := by decide +kernel
theorem dX4_init_26 : decode cX4_init 26 = .ok (.aload_n 0, 1) := by decide +kernel
theorem dX4_init_27 : decode cX4_init 27 = .ok (.bipush 40, 2) := by decide +kernel
theorem dX4_init_29 : decode cX4_init 29 = .ok (.newarray .int, 2) := by decide +kernel
theorem dX4_init_31 : decode cX4_init 31 = .ok (.putfield 21, 3) := by decide +kernel
theorem dX4_init_34 : decode cX4_init 34 = .ok (.aload_n 0, 1) := by decide +kernel
theorem dX4_init_35 : decode cX4_init 35 = .ok (.bipush 40, 2) := by decide +kernel
theorem dX4_init_37 : decode cX4_init 37 = .ok (.newarray .int, 2) := by decide +kernel
theorem dX4_init_39 : decode cX4_init 39 = .ok (.putfield 25, 3) := by decide +kernel
theorem dX4_init_42 : decode cX4_init 42 = .ok (.aload_n 0, 1) := by decide +kernel
theorem dX4_init_43 : decode cX4_init 43 = .ok (.bipush 40, 2) := by decide +kernel
theorem dX4_init_45 : decode cX4_init 45 = .ok (.newarray .int, 2) := by decide +kernel
theorem dX4_init_47 : decode cX4_init 47 = .ok (.putfield 28, 3) := by decide +kernel
theorem dX4_init_50 : decode cX4_init 50 = .ok (.return_, 1) := by decide +kernel
theorem dX5_init_0 : decode cX5_init 0 = .ok (.aload_n 0, 1) := by decide +kernel
theorem dX5_init_1 : decode cX5_init 1 = .ok (.invokespecial 3, 3) := by decide +kernel
theorem dX5_init_4 : decode cX5_init 4 = .ok (.aload_n 0, 1) := by decide +kernel
theorem dX5_init_5 : decode cX5_init 5 = .ok (.new 9, 3) := by decide +kernel
theorem dX5_init_8 : decode cX5_init 8 = .ok (.dup, 1) := by decide +kernel
theorem dX5_init_9 : decode cX5_init 9 = .ok (.invokespecial 11, 3) := by decide +kernel
theorem dX5_init_12 : decode cX5_init 12 = .ok (.putfield 12, 3) := by decide +kernel
theorem dX5_init_15 : decode cX5_init 15 = .ok (.aload_n 0, 1) := by decide +kernel
theorem dX5_init_16 : decode cX5_init 16 = .ok (.new 9, 3) := by decide +kernel
theorem dX5_init_19 : decode cX5_init 19 = .ok (.dup, 1) := by decide +kernel
theorem dX5_init_20 : decode cX5_init 20 = .ok (.invokespecial 11, 3) := by decide +kernel
theorem dX5_init_23 : decode cX5_init 23 = .ok (.putfield 18, 3) := by decide +kernel
theorem dX5_init_26 : decode cX5_init 26 = .ok (.aload_n 0, 1) := by decide +kernel
theorem dX5_init_27 : decode cX5_init 27 = .ok (.new 9, 3) := by decide +kernel
theorem dX5_init_30 : decode cX5_init 30 = .ok (.dup, 1) := by decide +kernel
theorem dX5_init_31 : decode cX5_init 31 = .ok (.invokespecial 11, 3) := by decide +kernel
theorem dX5_init_34 : decode cX5_init 34 = .ok (.putfield 21, 3) := by decide +kernel
theorem dX5_init_37 : decode cX5_init 37 = .ok (.aload_n 0, 1) := by decide +kernel
theorem dX5_init_38 : decode cX5_init 38 = .ok (.new 24, 3) := by decide +kernel
theorem dX5_init_41 : decode cX5_init 41 = .ok (.dup, 1) := by decide +kernel
theorem dX5_init_42 : decode cX5_init 42 = .ok (.invokespecial 26, 3) := by decide +kernel
theorem dX5_init_45 : decode cX5_init 45 = .ok (.putfield 27, 3) := by decide +kernel
theorem dX5_init_48 : decode cX5_init 48 = .ok (.aload_n 0, 1) := by decide +kernel
theorem dX5_init_49 : decode cX5_init 49 = .ok (.new 24, 3) := by decide +kernel
theorem dX5_init_52 : decode cX5_init 52 = .ok (.dup, 1) := by decide +kernel
theorem dX5_init_53 : decode cX5_init 53 = .ok (.invokespecial 26, 3) := by decide +kernel
theorem dX5_init_56 : decode cX5_init 56 = .ok (.putfield 31, 3) := by decide +kernel
theorem dX5_init_59 : decode cX5_init 59 = .ok (.aload_n 0, 1) := by decide +kernel
theorem dX5_init_60 : decode cX5_init 60 = .ok (.sipush 150, 3) := by decide +kernel
theorem dX5_init_63 : decode cX5_init 63 = .ok (.newarray .int, 2) := by decide +kernel
theorem dX5_init_65 : decode cX5_init 65 = .ok (.putfield 34, 3) := by decide +kernel
theorem dX5_init_68 : decode cX5_init 68 = .ok (.aload_n 0, 1) := by decide +kernel
theorem dX5_init_69 : decode cX5_init 69 = .ok (.sipush 150, 3) := by decide +kernel
theorem dX5_init_72 : decode cX5_init 72 = .ok (.newarray .int, 2) := by decide +kernel
theorem dX5_init_74 : decode cX5_init 74 = .ok (.putfield 38, 3) := by decide +kernel
theorem dX5_init_77 : decode cX5_init 77 = .ok (.aload_n 0, 1) := by decide +kernel
theorem dX5_init_78 : decode cX5_init 78 = .ok (.sipush 150, 3) := by decide +kernel
theorem dX5_init_81 : decode cX5_init 81 = .ok (.newarray .int, 2) := by decide +kernel
theorem dX5_init_83 : decode cX5_init 83 = .ok (.putfield 41, 3) := by decide +kernel
theorem dX5_init_86 : decode cX5_init 86 = .ok (.aload_n 0, 1) := by decide +kernel
theorem dX5_init_87 : decode cX5_init 87 = .ok (.sipush 150, 3) := by decide +kernel
theorem dX5_init_90 : decode cX5_init 90 = .ok (.newarray .int, 2) := by decide +kernel
theorem dX5_init_92 : decode cX5_init 92 = .ok (.putfield 44, 3) := by decide +kernel
theorem dX5_init_95 : decode cX5_init 95 = .ok (.aload_n 0, 1) := by decide +kernel
theorem dX5_init_96 : decode cX5_init 96 = .ok (.sipush 150, 3) := by decide +kernel
theorem dX5_init_99 : decode cX5_init 99 = .ok (.newarray .long, 2) := by decide +kernel
theorem dX5_init_101 : decode cX5_init 101 = .ok (.putfield 47, 3) := by decide +kernel
theorem dX5_init_104 : decode cX5_init 104 = .ok (.aload_n 0, 1) := by decide +kernel
theorem dX5_init_105 : decode cX5_init 105 = .ok (.bipush 40, 2) := by decide +kernel
theorem dX5_init_107 : decode cX5_init 107 = .ok (.newarray .int, 2) := by decide +kernel
theorem dX5_init_109 : decode cX5_init 109 = .ok (.putfield 51, 3) := by decide +kernel
theorem dX5_init_112 : decode cX5_init 112 = .ok (.aload_n 0, 1) := by decide +kernel
theorem dX5_init_113 : decode cX5_init 113 = .ok (.sipush 1600, 3) := by decide +kernel
theorem dX5_init_116 : decode cX5_init 116 = .ok (.newarray .int, 2) := by decide +kernel
theorem dX5_init_118 : decode cX5_init 118 = .ok (.putfield 54, 3) := by decide +kernel
theorem dX5_init_121 : decode cX5_init 121 = .ok (.aload_n 0, 1) := by decide +kernel
theorem dX5_init_122 : decode cX5_init 122 = .ok (.bipush 40, 2) := by decide +kernel
theorem dX5_init_124 : decode cX5_init 124 = .ok (.newarray .int, 2) := by decide +kernel
theorem dX5_init_126 : decode cX5_init 126 = .ok (.putfield 57, 3) := by decide +kernel
theorem dX5_init_129 : decode cX5_init 129 = .ok (.return_, 1) := by decide +kernel
theorem dX6_init_0 : decode cX6_init 0 = .ok (.aload_n 0, 1) := by decide +kernel
theorem dX6_init_1 : decode cX6_init 1 = .ok (.invokespecial 3, 3) := by decide +kernel
theorem dX6_init_4 : decode cX6_init 4 = .ok (.return_, 1) := by decide +kernel
theorem dX7_clear_0 : decode cX7_clear 0 = .ok (.aload_n 0, 1) := by decide +kernel
theorem dX7_clear_1 : decode cX7_clear 1 = .ok (.iconst 0, 1) := by decide +kernel
theorem dX7_clear_2 : decode cX7_clear 2 = .ok (.putfield 19, 3) := by decide +kernel
theorem dX7_clear_5 : decode cX7_clear 5 = .ok (.iconst 0, 1) := by decide +kernel
theorem dX7_clear_6 : decode cX7_clear 6 = .ok (.istore_n 1, 1) := by decide +kernel
theorem dX7_clear_7 : decode cX7_clear 7 = .ok (.iload_n 1, 1) := by decide +kernel
theorem dX7_clear_8 : decode cX7_clear 8 = .ok (.aload_n 0, 1) := by decide +kernel
theorem dX7_clear_9 : decode cX7_clear 9 = .ok (.getfield 9, 3) := by decide +kernel
theorem dX7_clear_12 : decode cX7_clear 12 = .ok (.arraylength, 1) := by decide +kernel
theorem dX7_clear_13 : decode cX7_clear 13 = .ok (.if_icmp .ge 16, 3) := by decide +kernel
theorem dX7_clear_16 : decode cX7_clear 16 = .ok (.aload_n 0, 1) := by decide +kernel
theorem dX7_clear_17 : decode cX7_clear 17 = .ok (.getfield 9, 3) := by decide +kernel
theorem dX7_clear_20 : decode cX7_clear 20 = .ok (.iload_n 1, 1) := by decide +kernel
theorem dX7_clear_21 : decode cX7_clear 21 = .ok (.iconst 0, 1) := by decide +kernel
theorem dX7_clear_22 : decode cX7_clear 22 = .ok (.iastore, 1) := by decide +kernel
theorem dX7_clear_23 : decode cX7_clear 23 = .ok (.iinc 1 1, 3) := by decide +kernel
theorem dX7_clear_26 : decode cX7_clear 26 = .ok (.goto (-19), 3) := by decide +kernel
theorem dX7_clear_29 : decode cX7_clear 29 = .ok (.return_, 1) := by decide +kernel
theorem dX7_init_0 : decode cX7_init 0 = .ok (.aload_n 0, 1) := by decide +kernel
theorem dX7_init_1 : decode cX7_init 1 = .ok (.invokespecial 3, 3) := by decide +kernel
theorem dX7_init_4 : decode cX7_init 4 = .ok (.aload_n 0, 1) := by decide +kernel
theorem dX7_init_5 : decode cX7_init 5 = .ok (.sipush 450, 3) := by decide +kernel
theorem dX7_init_8 : decode cX7_init 8 = .ok (.newarray .int, 2) := by decide +kernel
theorem dX7_init_10 : decode cX7_init 10 = .ok (.putfield 9, 3) := by decide +kernel
theorem dX7_init_13 : decode cX7_init 13 = .ok (.return_, 1) := by decide +kernel
theorem dX8_init_0 : decode cX8_init 0 = .ok (.aload_n 0, 1) := by decide +kernel
theorem dX8_init_1 : decode cX8_init 1 = .ok (.invokespecial 3, 3) := by decide +kernel
theorem dX8_init_4 : decode cX8_init 4 = .ok (.aload_n 0, 1) := by decide +kernel
theorem dX8_init_5 : decode cX8_init 5 = .ok (.new 9, 3) := by decide +kernel
theorem dX8_init_8 : decode cX8_init 8 = .ok (.dup, 1) := by decide +kernel
theorem dX8_init_9 : decode cX8_init 9 = .ok (.invokespecial 11, 3) := by decide +kernel
theorem dX8_init_12 : decode cX8_init 12 = .ok (.putfield 12, 3) := by decide +kernel
theorem dX8_init_15 : decode cX8_init 15 = .ok (.aload_n 0, 1) := by decide +kernel
theorem dX8_init_16 : decode cX8_init 16 = .ok (.sipush 150, 3) := by decide +kernel
theorem dX8_init_19 : decode cX8_init 19 = .ok (.newarray .int, 2) := by decide +kernel
theorem dX8_init_21 : decode cX8_init 21 = .ok (.putfield 18, 3) := by decide +kernel
theorem dX8_init_24 : decode cX8_init 24 = .ok (.aload_n 0, 1) := by decide +kernel
theorem dX8_init_25 : decode cX8_init 25 = .ok (.bipush 40, 2) := by decide +kernel
theorem dX8_init_27 : decode cX8_init 27 = .ok (.newarray .int, 2) := by decide +kernel
theorem dX8_init_29 : decode cX8_init 29 = .ok (.putfield 22, 3) := by decide +kernel
theorem dX8_init_32 : decode cX8_init 32 = .ok (.return_, 1) := by decide +kernel
theorem dX9_advance_0 : decode cX9_advance 0 = .ok (.aload_n 0, 1) := by decide +kernel
theorem dX9_advance_1 : decode cX9_advance 1 = .ok (.aload_n 0, 1) := by decide +kernel
theorem dX9_advance_2 : decode cX9_advance 2 = .ok (.getfield 19, 3) := by decide +kernel
theorem dX9_advance_5 : decode cX9_advance 5 = .ok (.putfield 22, 3) := by decide +kernel
theorem dX9_advance_8 : decode cX9_advance 8 = .ok (.aload_n 0, 1) := by decide +kernel
theorem dX9_advance_9 : decode cX9_advance 9 = .ok (.getfield 22, 3) := by decide +kernel
theorem dX9_advance_12 : decode cX9_advance 12 = .ok (.aload_n 0, 1) := by decide +kernel
theorem dX9_advance_13 : decode cX9_advance 13 = .ok (.getfield 15, 3) := by decide +kernel
theorem dX9_advance_16 : decode cX9_advance 16 = .ok (.if_icmp .ge 44, 3) := by decide +kernel
theorem dX9_advance_60 : decode cX9_advance 60 = .ok (.aload_n 0, 1) := by decide +kernel
theorem dX9_advance_61 : decode cX9_advance 61 = .ok (.aload_n 0, 1) := by decide +kernel
theorem dX9_advance_62 : decode cX9_advance 62 = .ok (.getfield 22, 3) := by decide +kernel
theorem dX9_advance_65 : decode cX9_advance 65 = .ok (.putfield 19, 3) := by decide +kernel
theorem dX9_advance_68 : decode cX9_advance 68 = .ok (.aload_n 0, 1) := by decide +kernel
theorem dX9_advance_69 : decode cX9_advance 69 = .ok (.getfield 22, 3) := by decide +kernel
theorem dX9_advance_72 : decode cX9_advance 72 = .ok (.aload_n 0, 1) := by decide +kernel
theorem dX9_advance_73 : decode cX9_advance 73 = .ok (.getfield 15, 3) := by decide +kernel
theorem dX9_advance_76 : decode cX9_advance 76 = .ok (.if_icmp .lt 11, 3) := by decide +kernel
theorem dX9_advance_79 : decode cX9_advance 79 = .ok (.aload_n 0, 1) := by decide +kernel
theorem dX9_advance_80 : decode cX9_advance 80 = .ok (.iconst 0, 1) := by decide +kernel
theorem dX9_advance_81 : decode cX9_advance 81 = .ok (.putfield 25, 3) := by decide +kernel
theorem dX9_advance_84 : decode cX9_advance 84 = .ok (.goto 89, 3) := by decide +kernel
theorem dX9_advance_173 : decode cX9_advance 173 = .ok (.return_, 1) := by decide +kernel
theorem dX9_append_0 : decode cX9_append 0 = .ok (.bipush 24, 2) := by decide +kernel
theorem dX9_append_2 : decode cX9_append 2 = .ok (.istore_n 2, 1) := by decide +kernel
theorem dX9_append_3 : decode cX9_append 3 = .ok (.iload_n 2, 1) := by decide +kernel
theorem dX9_append_4 : decode cX9_append 4 = .ok (.ifCond .lt 45, 3) := by decide +kernel
theorem dX9_append_7 : decode cX9_append 7 = .ok (.aload_n 0, 1) := by decide +kernel
theorem dX9_append_8 : decode cX9_append 8 = .ok (.getfield 15, 3) := by decide +kernel
theorem dX9_append_11 : decode cX9_append 11 = .ok (.sipush 500, 3) := by decide +kernel
theorem dX9_append_14 : decode cX9_append 14 = .ok (.if_icmp .ge 29, 3) := by decide +kernel
theorem dX9_append_17 : decode cX9_append 17 = .ok (.aload_n 0, 1) := by decide +kernel
theorem dX9_append_18 : decode cX9_append 18 = .ok (.getfield 9, 3) := by decide +kernel
theorem dX9_append_21 : decode cX9_append 21 = .ok (.aload_n 0, 1) := by decide +kernel
theorem dX9_append_22 : decode cX9_append 22 = .ok (.getfield 15, 3) := by decide +kernel
theorem dX9_append_25 : decode cX9_append 25 = .ok (.iload_n 1, 1) := by decide +kernel
theorem dX9_append_26 : decode cX9_append 26 = .ok (.iload_n 2, 1) := by decide +kernel
theorem dX9_append_27 : decode cX9_append 27 = .ok (.iushr, 1) := by decide +kernel
theorem dX9_append_28 : decode cX9_append 28 = .ok (.sipush 255, 3) := by decide +kernel
theorem dX9_append_31 : decode cX9_append 31 = .ok (.iand, 1) := by decide +kernel
theorem dX9_append_32 : decode cX9_append 32 = .ok (.iastore, 1) := by decide +kernel
theorem dX9_append_33 : decode cX9_append 33 = .ok (.aload_n 0, 1) := by decide +kernel
theorem dX9_append_34 : decode cX9_append 34 = .ok (.dup, 1) := by decide +kernel
theorem dX9_append_35 : decode cX9_append 35 = .ok (.getfield 15, 3) := by decide +kernel
theorem dX9_append_38 : decode cX9_append 38 = .ok (.iconst 1, 1) := by decide +kernel
theorem dX9_append_39 : decode cX9_append 39 = .ok (.iadd, 1) := by decide +kernel
theorem dX9_append_40 : decode cX9_append 40 = .ok (.putfield 15, 3) := by decide +kernel
theorem dX9_append_43 : decode cX9_append 43 = .ok (.iinc 2 (-8), 3) := by decide +kernel
theorem dX9_append_46 : decode cX9_append 46 = .ok (.goto (-43), 3) := by decide +kernel
theorem dX9_append_49 : decode cX9_append 49 = .ok (.return_, 1) := by decide +kernel
theorem dX9_hasRoom_0 : decode cX9_hasRoom 0 = .ok (.aload_n 0, 1) := by decide +kernel
theorem dX9_hasRoom_1 : decode cX9_hasRoom 1 = .ok (.getfield 15, 3) := by decide +kernel
theorem dX9_hasRoom_4 : decode cX9_hasRoom 4 = .ok (.iload_n 1, 1) := by decide +kernel
theorem dX9_hasRoom_5 : decode cX9_hasRoom 5 = .ok (.iadd, 1) := by decide +kernel
theorem dX9_hasRoom_6 : decode cX9_hasRoom 6 = .ok (.sipush 500, 3) := by decide +kernel
theorem dX9_hasRoom_9 : decode cX9_hasRoom 9 = .ok (.if_icmp .gt 7, 3) := by decide +kernel
theorem dX9_hasRoom_12 : decode cX9_hasRoom 12 = .ok (.iconst 1, 1) := by decide +kernel
theorem dX9_hasRoom_13 : decode cX9_hasRoom 13 = .ok (.goto 4, 3) := by decide +kernel
theorem dX9_hasRoom_17 : decode cX9_hasRoom 17 = .ok (.ireturn, 1) := by decide +kernel
theorem dX9_init_0 : decode cX9_init 0 = .ok (.aload_n 0, 1) := by decide +kernel
theorem dX9_init_1 : decode cX9_init 1 = .ok (.invokespecial 3, 3) := by decide +kernel
theorem dX9_init_4 : decode cX9_init 4 = .ok (.aload_n 0, 1) := by decide +kernel
theorem dX9_init_5 : decode cX9_init 5 = .ok (.sipush 500, 3) := by decide +kernel
theorem dX9_init_8 : decode cX9_init 8 = .ok (.newarray .int, 2) := by decide +kernel
theorem dX9_init_10 : decode cX9_init 10 = .ok (.putfield 9, 3) := by decide +kernel
theorem dX9_init_13 : decode cX9_init 13 = .ok (.return_, 1) := by decide +kernel
theorem dX9_rewind_0 : decode cX9_rewind 0 = .ok (.aload_n 0, 1) := by decide +kernel
theorem dX9_rewind_1 : decode cX9_rewind 1 = .ok (.iconst 0, 1) := by decide +kernel
theorem dX9_rewind_2 : decode cX9_rewind 2 = .ok (.putfield 19, 3) := by decide +kernel
theorem dX9_rewind_5 : decode cX9_rewind 5 = .ok (.return_, 1) := by decide +kernel
