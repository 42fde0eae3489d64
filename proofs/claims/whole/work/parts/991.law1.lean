theorem dL_18 : decode code 18 = .ok (.iload_n 3, 1) := by decide +kernel
theorem dL_19 : decode code 19 = .ok (.aload_n 0, 1) := by decide +kernel
theorem dL_20 : decode code 20 = .ok (.arraylength, 1) := by decide +kernel
theorem dL_21 : decode code 21 = .ok (.bipush 6, 2) := by decide +kernel
theorem dL_23 : decode code 23 = .ok (.isub, 1) := by decide +kernel
theorem dL_24 : decode code 24 = .ok (.if_icmp .gt 1214, 3) := by decide +kernel
theorem dL_27 : decode code 27 = .ok (.aload_n 0, 1) := by decide +kernel
theorem dL_28 : decode code 28 = .ok (.iload_n 3, 1) := by decide +kernel
theorem dL_29 : decode code 29 = .ok (.iaload, 1) := by decide +kernel
theorem dL_30 : decode code 30 = .ok (.bipush 63, 2) := by decide +kernel
theorem dL_32 : decode code 32 = .ok (.iand, 1) := by decide +kernel
theorem dL_33 : decode code 33 = .ok (.tableswitch 1199 0 33 #[151, 214, 227, 240, 273, 296, 329, 352, 365, 388, 431, 454, 488, 511, 544, 567, 590, 624, 647, 691, 704, 757, 790, 813, 846, 879, 922, 945, 1019, 1053, 1116, 1149, 1172, 1185], 151) := by decide +kernel
theorem dL_184 : decode code 184 = .ok (.aload_n 1, 1) := by decide +kernel
theorem dL_185 : decode code 185 = .ok (.aload_n 0, 1) := by decide +kernel
theorem dL_186 : decode code 186 = .ok (.iload_n 3, 1) := by decide +kernel
theorem dL_187 : decode code 187 = .ok (.iconst 1, 1) := by decide +kernel
theorem dL_188 : decode code 188 = .ok (.iadd, 1) := by decide +kernel
theorem dL_189 : decode code 189 = .ok (.iaload, 1) := by decide +kernel
theorem dL_190 : decode code 190 = .ok (.aload_n 0, 1) := by decide +kernel
theorem dL_191 : decode code 191 = .ok (.iload_n 3, 1) := by decide +kernel
theorem dL_192 : decode code 192 = .ok (.iconst 2, 1) := by decide +kernel
theorem dL_193 : decode code 193 = .ok (.iadd, 1) := by decide +kernel
theorem dL_194 : decode code 194 = .ok (.iaload, 1) := by decide +kernel
theorem dL_195 : decode code 195 = .ok (.i2l, 1) := by decide +kernel
theorem dL_196 : decode code 196 = .ok (.bipush 32, 2) := by decide +kernel
theorem dL_198 : decode code 198 = .ok (.lshl, 1) := by decide +kernel
theorem dL_199 : decode code 199 = .ok (.aload_n 0, 1) := by decide +kernel
theorem dL_200 : decode code 200 = .ok (.iload_n 3, 1) := by decide +kernel
theorem dL_201 : decode code 201 = .ok (.iconst 3, 1) := by decide +kernel
theorem dL_202 : decode code 202 = .ok (.iadd, 1) := by decide +kernel
theorem dL_203 : decode code 203 = .ok (.iaload, 1) := by decide +kernel
theorem dL_204 : decode code 204 = .ok (.i2l, 1) := by decide +kernel
theorem dL_205 : decode code 205 = .ok (.ldc2_w 13, 3) := by decide +kernel
theorem dL_208 : decode code 208 = .ok (.land, 1) := by decide +kernel
theorem dL_209 : decode code 209 = .ok (.lor, 1) := by decide +kernel
theorem dL_210 : decode code 210 = .ok (.invokevirtual 15, 3) := by decide +kernel
theorem dL_213 : decode code 213 = .ok (.aload_n 2, 1) := by decide +kernel
theorem dL_214 : decode code 214 = .ok (.aload_n 0, 1) := by decide +kernel
theorem dL_215 : decode code 215 = .ok (.iload_n 3, 1) := by decide +kernel
theorem dL_216 : decode code 216 = .ok (.iconst 1, 1) := by decide +kernel
theorem dL_217 : decode code 217 = .ok (.iadd, 1) := by decide +kernel
theorem dL_218 : decode code 218 = .ok (.iaload, 1) := by decide +kernel
theorem dL_219 : decode code 219 = .ok (.aload_n 0, 1) := by decide +kernel
theorem dL_220 : decode code 220 = .ok (.iload_n 3, 1) := by decide +kernel
theorem dL_221 : decode code 221 = .ok (.iconst 2, 1) := by decide +kernel
theorem dL_222 : decode code 222 = .ok (.iadd, 1) := by decide +kernel
theorem dL_223 : decode code 223 = .ok (.iaload, 1) := by decide +kernel
theorem dL_224 : decode code 224 = .ok (.i2l, 1) := by decide +kernel
theorem dL_225 : decode code 225 = .ok (.bipush 32, 2) := by decide +kernel
theorem dL_227 : decode code 227 = .ok (.lshl, 1) := by decide +kernel
theorem dL_228 : decode code 228 = .ok (.aload_n 0, 1) := by decide +kernel
theorem dL_229 : decode code 229 = .ok (.iload_n 3, 1) := by decide +kernel
theorem dL_230 : decode code 230 = .ok (.iconst 3, 1) := by decide +kernel
theorem dL_231 : decode code 231 = .ok (.iadd, 1) := by decide +kernel
theorem dL_232 : decode code 232 = .ok (.iaload, 1) := by decide +kernel
theorem dL_233 : decode code 233 = .ok (.i2l, 1) := by decide +kernel
theorem dL_234 : decode code 234 = .ok (.ldc2_w 13, 3) := by decide +kernel
theorem dL_237 : decode code 237 = .ok (.land, 1) := by decide +kernel
theorem dL_238 : decode code 238 = .ok (.lor, 1) := by decide +kernel
theorem dL_239 : decode code 239 = .ok (.invokevirtual 19, 3) := by decide +kernel
theorem dL_242 : decode code 242 = .ok (.if_icmp .eq 990, 3) := by decide +kernel
theorem dL_245 : decode code 245 = .ok (.iconst 0, 1) := by decide +kernel
theorem dL_246 : decode code 246 = .ok (.ireturn, 1) := by decide +kernel
theorem dL_247 : decode code 247 = .ok (.aload_n 1, 1) := by decide +kernel
theorem dL_248 : decode code 248 = .ok (.invokevirtual 20, 3) := by decide +kernel
theorem dL_251 : decode code 251 = .ok (.aload_n 2, 1) := by decide +kernel
theorem dL_252 : decode code 252 = .ok (.invokevirtual 24, 3) := by decide +kernel
theorem dL_255 : decode code 255 = .ok (.if_icmp .eq 977, 3) := by decide +kernel
theorem dL_258 : decode code 258 = .ok (.iconst 0, 1) := by decide +kernel
theorem dL_259 : decode code 259 = .ok (.ireturn, 1) := by decide +kernel
theorem dL_260 : decode code 260 = .ok (.aload_n 1, 1) := by decide +kernel
theorem dL_261 : decode code 261 = .ok (.invokevirtual 25, 3) := by decide +kernel
theorem dL_264 : decode code 264 = .ok (.aload_n 2, 1) := by decide +kernel
theorem dL_265 : decode code 265 = .ok (.invokevirtual 28, 3) := by decide +kernel
theorem dL_268 : decode code 268 = .ok (.if_icmp .eq 964, 3) := by decide +kernel
theorem dL_271 : decode code 271 = .ok (.iconst 0, 1) := by decide +kernel
theorem dL_272 : decode code 272 = .ok (.ireturn, 1) := by decide +kernel
theorem dL_273 : decode code 273 = .ok (.aload_n 1, 1) := by decide +kernel
theorem dL_274 : decode code 274 = .ok (.aload_n 0, 1) := by decide +kernel
theorem dL_275 : decode code 275 = .ok (.iload_n 3, 1) := by decide +kernel
theorem dL_276 : decode code 276 = .ok (.iconst 1, 1) := by decide +kernel
theorem dL_277 : decode code 277 = .ok (.iadd, 1) := by decide +kernel
theorem dL_278 : decode code 278 = .ok (.iaload, 1) := by decide +kernel
theorem dL_279 : decode code 279 = .ok (.aload_n 0, 1) := by decide +kernel
theorem dL_280 : decode code 280 = .ok (.iload_n 3, 1) := by decide +kernel
theorem dL_281 : decode code 281 = .ok (.iconst 2, 1) := by decide +kernel
theorem dL_282 : decode code 282 = .ok (.iadd, 1) := by decide +kernel
theorem dL_283 : decode code 283 = .ok (.iaload, 1) := by decide +kernel
theorem dL_284 : decode code 284 = .ok (.invokevirtual 29, 3) := by decide +kernel
theorem dL_287 : decode code 287 = .ok (.aload_n 2, 1) := by decide +kernel
theorem dL_288 : decode code 288 = .ok (.aload_n 0, 1) := by decide +kernel
theorem dL_289 : decode code 289 = .ok (.iload_n 3, 1) := by decide +kernel
theorem dL_290 : decode code 290 = .ok (.iconst 1, 1) := by decide +kernel
theorem dL_291 : decode code 291 = .ok (.iadd, 1) := by decide +kernel
theorem dL_292 : decode code 292 = .ok (.iaload, 1) := by decide +kernel
theorem dL_293 : decode code 293 = .ok (.aload_n 0, 1) := by decide +kernel
theorem dL_294 : decode code 294 = .ok (.iload_n 3, 1) := by decide +kernel
theorem dL_295 : decode code 295 = .ok (.iconst 2, 1) := by decide +kernel
theorem dL_296 : decode code 296 = .ok (.iadd, 1) := by decide +kernel
theorem dL_297 : decode code 297 = .ok (.iaload, 1) := by decide +kernel
theorem dL_298 : decode code 298 = .ok (.invokevirtual 33, 3) := by decide +kernel
theorem dL_301 : decode code 301 = .ok (.if_icmp .eq 931, 3) := by decide +kernel
theorem dL_304 : decode code 304 = .ok (.iconst 0, 1) := by decide +kernel
theorem dL_305 : decode code 305 = .ok (.ireturn, 1) := by decide +kernel
theorem dL_306 : decode code 306 = .ok (.aload_n 1, 1) := by decide +kernel
theorem dL_307 : decode code 307 = .ok (.aload_n 0, 1) := by decide +kernel
theorem dL_308 : decode code 308 = .ok (.iload_n 3, 1) := by decide +kernel
theorem dL_309 : decode code 309 = .ok (.iconst 1, 1) := by decide +kernel
theorem dL_310 : decode code 310 = .ok (.iadd, 1) := by decide +kernel
theorem dL_311 : decode code 311 = .ok (.iaload, 1) := by decide +kernel
theorem dL_312 : decode code 312 = .ok (.invokevirtual 34, 3) := by decide +kernel
theorem dL_315 : decode code 315 = .ok (.aload_n 2, 1) := by decide +kernel
theorem dL_316 : decode code 316 = .ok (.aload_n 0, 1) := by decide +kernel
theorem dL_317 : decode code 317 = .ok (.iload_n 3, 1) := by decide +kernel
theorem dL_318 : decode code 318 = .ok (.iconst 1, 1) := by decide +kernel
theorem dL_319 : decode code 319 = .ok (.iadd, 1) := by decide +kernel
theorem dL_320 : decode code 320 = .ok (.iaload, 1) := by decide +kernel
theorem dL_321 : decode code 321 = .ok (.invokevirtual 38, 3) := by decide +kernel
theorem dL_324 : decode code 324 = .ok (.if_icmp .eq 908, 3) := by decide +kernel
theorem dL_327 : decode code 327 = .ok (.iconst 0, 1) := by decide +kernel
theorem dL_328 : decode code 328 = .ok (.ireturn, 1) := by decide +kernel
theorem dL_329 : decode code 329 = .ok (.aload_n 1, 1) := by decide +kernel
theorem dL_330 : decode code 330 = .ok (.aload_n 0, 1) := by decide +kernel
theorem dL_331 : decode code 331 = .ok (.iload_n 3, 1) := by decide +kernel
theorem dL_332 : decode code 332 = .ok (.iconst 1, 1) := by decide +kernel
theorem dL_333 : decode code 333 = .ok (.iadd, 1) := by decide +kernel
theorem dL_334 : decode code 334 = .ok (.iaload, 1) := by decide +kernel
theorem dL_335 : decode code 335 = .ok (.aload_n 0, 1) := by decide +kernel
theorem dL_336 : decode code 336 = .ok (.iload_n 3, 1) := by decide +kernel
theorem dL_337 : decode code 337 = .ok (.iconst 2, 1) := by decide +kernel
theorem dL_338 : decode code 338 = .ok (.iadd, 1) := by decide +kernel
theorem dL_339 : decode code 339 = .ok (.iaload, 1) := by decide +kernel
theorem dL_340 : decode code 340 = .ok (.invokevirtual 39, 3) := by decide +kernel
theorem dL_343 : decode code 343 = .ok (.aload_n 2, 1) := by decide +kernel
theorem dL_344 : decode code 344 = .ok (.aload_n 0, 1) := by decide +kernel
theorem dL_345 : decode code 345 = .ok (.iload_n 3, 1) := by decide +kernel
theorem dL_346 : decode code 346 = .ok (.iconst 1, 1) := by decide +kernel
theorem dL_347 : decode code 347 = .ok (.iadd, 1) := by decide +kernel
theorem dL_348 : decode code 348 = .ok (.iaload, 1) := by decide +kernel
theorem dL_349 : decode code 349 = .ok (.aload_n 0, 1) := by decide +kernel
theorem dL_350 : decode code 350 = .ok (.iload_n 3, 1) := by decide +kernel
theorem dL_351 : decode code 351 = .ok (.iconst 2, 1) := by decide +kernel
theorem dL_352 : decode code 352 = .ok (.iadd, 1) := by decide +kernel
theorem dL_353 : decode code 353 = .ok (.iaload, 1) := by decide +kernel
theorem dL_354 : decode code 354 = .ok (.invokevirtual 42, 3) := by decide +kernel
theorem dL_357 : decode code 357 = .ok (.if_icmp .eq 875, 3) := by decide +kernel
theorem dL_360 : decode code 360 = .ok (.iconst 0, 1) := by decide +kernel
theorem dL_361 : decode code 361 = .ok (.ireturn, 1) := by decide +kernel
theorem dL_362 : decode code 362 = .ok (.aload_n 1, 1) := by decide +kernel
theorem dL_363 : decode code 363 = .ok (.aload_n 0, 1) := by decide +kernel
theorem dL_364 : decode code 364 = .ok (.iload_n 3, 1) := by decide +kernel
theorem dL_365 : decode code 365 = .ok (.iconst 1, 1) := by decide +kernel
theorem dL_366 : decode code 366 = .ok (.iadd, 1) := by decide +kernel
theorem dL_367 : decode code 367 = .ok (.iaload, 1) := by decide +kernel
theorem dL_368 : decode code 368 = .ok (.invokevirtual 43, 3) := by decide +kernel
theorem dL_371 : decode code 371 = .ok (.aload_n 2, 1) := by decide +kernel
theorem dL_372 : decode code 372 = .ok (.aload_n 0, 1) := by decide +kernel
theorem dL_373 : decode code 373 = .ok (.iload_n 3, 1) := by decide +kernel
theorem dL_374 : decode code 374 = .ok (.iconst 1, 1) := by decide +kernel
theorem dL_375 : decode code 375 = .ok (.iadd, 1) := by decide +kernel
theorem dL_376 : decode code 376 = .ok (.iaload, 1) := by decide +kernel
theorem dL_377 : decode code 377 = .ok (.invokevirtual 46, 3) := by decide +kernel
theorem dL_380 : decode code 380 = .ok (.if_icmp .eq 852, 3) := by decide +kernel
theorem dL_383 : decode code 383 = .ok (.iconst 0, 1) := by decide +kernel
theorem dL_384 : decode code 384 = .ok (.ireturn, 1) := by decide +kernel
theorem dL_385 : decode code 385 = .ok (.aload_n 1, 1) := by decide +kernel
theorem dL_386 : decode code 386 = .ok (.invokevirtual 47, 3) := by decide +kernel
theorem dL_389 : decode code 389 = .ok (.aload_n 2, 1) := by decide +kernel
theorem dL_390 : decode code 390 = .ok (.invokevirtual 50, 3) := by decide +kernel
theorem dL_393 : decode code 393 = .ok (.if_icmp .eq 839, 3) := by decide +kernel
theorem dL_396 : decode code 396 = .ok (.iconst 0, 1) := by decide +kernel
theorem dL_397 : decode code 397 = .ok (.ireturn, 1) := by decide +kernel
theorem dL_398 : decode code 398 = .ok (.aload_n 1, 1) := by decide +kernel
theorem dL_399 : decode code 399 = .ok (.aload_n 0, 1) := by decide +kernel
theorem dL_400 : decode code 400 = .ok (.iload_n 3, 1) := by decide +kernel
theorem dL_401 : decode code 401 = .ok (.iconst 1, 1) := by decide +kernel
theorem dL_402 : decode code 402 = .ok (.iadd, 1) := by decide +kernel
theorem dL_403 : decode code 403 = .ok (.iaload, 1) := by decide +kernel
theorem dL_404 : decode code 404 = .ok (.invokevirtual 51, 3) := by decide +kernel
theorem dL_407 : decode code 407 = .ok (.aload_n 2, 1) := by decide +kernel
theorem dL_408 : decode code 408 = .ok (.aload_n 0, 1) := by decide +kernel
theorem dL_409 : decode code 409 = .ok (.iload_n 3, 1) := by decide +kernel
theorem dL_410 : decode code 410 = .ok (.iconst 1, 1) := by decide +kernel
theorem dL_411 : decode code 411 = .ok (.iadd, 1) := by decide +kernel
theorem dL_412 : decode code 412 = .ok (.iaload, 1) := by decide +kernel
theorem dL_413 : decode code 413 = .ok (.invokevirtual 54, 3) := by decide +kernel
theorem dL_416 : decode code 416 = .ok (.if_icmp .eq 816, 3) := by decide +kernel
theorem dL_419 : decode code 419 = .ok (.iconst 0, 1) := by decide +kernel
theorem dL_420 : decode code 420 = .ok (.ireturn, 1) := by decide +kernel
theorem dL_421 : decode code 421 = .ok (.aload_n 1, 1) := by decide +kernel
theorem dL_422 : decode code 422 = .ok (.aload_n 0, 1) := by decide +kernel
theorem dL_423 : decode code 423 = .ok (.iload_n 3, 1) := by decide +kernel
theorem dL_424 : decode code 424 = .ok (.iconst 1, 1) := by decide +kernel
theorem dL_425 : decode code 425 = .ok (.iadd, 1) := by decide +kernel
theorem dL_426 : decode code 426 = .ok (.iaload, 1) := by decide +kernel
theorem dL_427 : decode code 427 = .ok (.aload_n 0, 1) := by decide +kernel
theorem dL_428 : decode code 428 = .ok (.iload_n 3, 1) := by decide +kernel
theorem dL_429 : decode code 429 = .ok (.iconst 2, 1) := by decide +kernel
theorem dL_430 : decode code 430 = .ok (.iadd, 1) := by decide +kernel
theorem dL_431 : decode code 431 = .ok (.iaload, 1) := by decide +kernel
theorem dL_432 : decode code 432 = .ok (.aload_n 0, 1) := by decide +kernel
theorem dL_433 : decode code 433 = .ok (.iload_n 3, 1) := by decide +kernel
theorem dL_434 : decode code 434 = .ok (.iconst 3, 1) := by decide +kernel
theorem dL_435 : decode code 435 = .ok (.iadd, 1) := by decide +kernel
theorem dL_436 : decode code 436 = .ok (.iaload, 1) := by decide +kernel
theorem dL_437 : decode code 437 = .ok (.invokevirtual 55, 3) := by decide +kernel
theorem dL_440 : decode code 440 = .ok (.aload_n 2, 1) := by decide +kernel
theorem dL_441 : decode code 441 = .ok (.aload_n 0, 1) := by decide +kernel
theorem dL_442 : decode code 442 = .ok (.iload_n 3, 1) := by decide +kernel
theorem dL_443 : decode code 443 = .ok (.iconst 1, 1) := by decide +kernel
theorem dL_444 : decode code 444 = .ok (.iadd, 1) := by decide +kernel
theorem dL_445 : decode code 445 = .ok (.iaload, 1) := by decide +kernel
theorem dL_446 : decode code 446 = .ok (.aload_n 0, 1) := by decide +kernel
theorem dL_447 : decode code 447 = .ok (.iload_n 3, 1) := by decide +kernel
theorem dL_448 : decode code 448 = .ok (.iconst 2, 1) := by decide +kernel
theorem dL_449 : decode code 449 = .ok (.iadd, 1) := by decide +kernel
theorem dL_450 : decode code 450 = .ok (.iaload, 1) := by decide +kernel
theorem dL_451 : decode code 451 = .ok (.aload_n 0, 1) := by decide +kernel
theorem dL_452 : decode code 452 = .ok (.iload_n 3, 1) := by decide +kernel
theorem dL_453 : decode code 453 = .ok (.iconst 3, 1) := by decide +kernel
theorem dL_454 : decode code 454 = .ok (.iadd, 1) := by decide +kernel
theorem dL_455 : decode code 455 = .ok (.iaload, 1) := by decide +kernel
theorem dL_456 : decode code 456 = .ok (.invokevirtual 59, 3) := by decide +kernel
theorem dL_459 : decode code 459 = .ok (.if_icmp .eq 773, 3) := by decide +kernel
theorem dL_462 : decode code 462 = .ok (.iconst 0, 1) := by decide +kernel
theorem dL_463 : decode code 463 = .ok (.ireturn, 1) := by decide +kernel
theorem dL_464 : decode code 464 = .ok (.aload_n 1, 1) := by decide +kernel
theorem dL_465 : decode code 465 = .ok (.aload_n 0, 1) := by decide +kernel
theorem dL_466 : decode code 466 = .ok (.iload_n 3, 1) := by decide +kernel
theorem dL_467 : decode code 467 = .ok (.iconst 1, 1) := by decide +kernel
theorem dL_468 : decode code 468 = .ok (.iadd, 1) := by decide +kernel
theorem dL_469 : decode code 469 = .ok (.iaload, 1) := by decide +kernel
theorem dL_470 : decode code 470 = .ok (.invokevirtual 60, 3) := by decide +kernel
theorem dL_473 : decode code 473 = .ok (.aload_n 2, 1) := by decide +kernel
theorem dL_474 : decode code 474 = .ok (.aload_n 0, 1) := by decide +kernel
theorem dL_475 : decode code 475 = .ok (.iload_n 3, 1) := by decide +kernel
theorem dL_476 : decode code 476 = .ok (.iconst 1, 1) := by decide +kernel
theorem dL_477 : decode code 477 = .ok (.iadd, 1) := by decide +kernel
theorem dL_478 : decode code 478 = .ok (.iaload, 1) := by decide +kernel
theorem dL_479 : decode code 479 = .ok (.invokevirtual 63, 3) := by decide +kernel
theorem dL_482 : decode code 482 = .ok (.if_icmp .eq 750, 3) := by decide +kernel
theorem dL_485 : decode code 485 = .ok (.iconst 0, 1) := by decide +kernel
theorem dL_486 : decode code 486 = .ok (.ireturn, 1) := by decide +kernel
theorem dL_487 : decode code 487 = .ok (.aload_n 1, 1) := by decide +kernel
theorem dL_488 : decode code 488 = .ok (.aload_n 0, 1) := by decide +kernel
theorem dL_489 : decode code 489 = .ok (.iload_n 3, 1) := by decide +kernel
theorem dL_490 : decode code 490 = .ok (.iconst 1, 1) := by decide +kernel
theorem dL_491 : decode code 491 = .ok (.iadd, 1) := by decide +kernel
theorem dL_492 : decode code 492 = .ok (.iaload, 1) := by decide +kernel
theorem dL_493 : decode code 493 = .ok (.aload_n 0, 1) := by decide +kernel
theorem dL_494 : decode code 494 = .ok (.iload_n 3, 1) := by decide +kernel
theorem dL_495 : decode code 495 = .ok (.iconst 2, 1) := by decide +kernel
theorem dL_496 : decode code 496 = .ok (.iadd, 1) := by decide +kernel
theorem dL_497 : decode code 497 = .ok (.iaload, 1) := by decide +kernel
theorem dL_498 : decode code 498 = .ok (.invokevirtual 64, 3) := by decide +kernel
theorem dL_501 : decode code 501 = .ok (.aload_n 2, 1) := by decide +kernel
theorem dL_502 : decode code 502 = .ok (.aload_n 0, 1) := by decide +kernel
theorem dL_503 : decode code 503 = .ok (.iload_n 3, 1) := by decide +kernel
theorem dL_504 : decode code 504 = .ok (.iconst 1, 1) := by decide +kernel
theorem dL_505 : decode code 505 = .ok (.iadd, 1) := by decide +kernel
theorem dL_506 : decode code 506 = .ok (.iaload, 1) := by decide +kernel
theorem dL_507 : decode code 507 = .ok (.aload_n 0, 1) := by decide +kernel
theorem dL_508 : decode code 508 = .ok (.iload_n 3, 1) := by decide +kernel
theorem dL_509 : decode code 509 = .ok (.iconst 2, 1) := by decide +kernel
theorem dL_510 : decode code 510 = .ok (.iadd, 1) := by decide +kernel
theorem dL_511 : decode code 511 = .ok (.iaload, 1) := by decide +kernel
theorem dL_512 : decode code 512 = .ok (.invokevirtual 68, 3) := by decide +kernel
theorem dL_515 : decode code 515 = .ok (.lcmp, 1) := by decide +kernel
theorem dL_516 : decode code 516 = .ok (.ifCond .eq 716, 3) := by decide +kernel
theorem dL_519 : decode code 519 = .ok (.iconst 0, 1) := by decide +kernel
theorem dL_520 : decode code 520 = .ok (.ireturn, 1) := by decide +kernel
theorem dL_521 : decode code 521 = .ok (.aload_n 1, 1) := by decide +kernel
theorem dL_522 : decode code 522 = .ok (.aload_n 0, 1) := by decide +kernel
theorem dL_523 : decode code 523 = .ok (.iload_n 3, 1) := by decide +kernel
theorem dL_524 : decode code 524 = .ok (.iconst 1, 1) := by decide +kernel
theorem dL_525 : decode code 525 = .ok (.iadd, 1) := by decide +kernel
theorem dL_526 : decode code 526 = .ok (.iaload, 1) := by decide +kernel
theorem dL_527 : decode code 527 = .ok (.invokevirtual 69, 3) := by decide +kernel
theorem dL_530 : decode code 530 = .ok (.aload_n 2, 1) := by decide +kernel
theorem dL_531 : decode code 531 = .ok (.aload_n 0, 1) := by decide +kernel
theorem dL_532 : decode code 532 = .ok (.iload_n 3, 1) := by decide +kernel
theorem dL_533 : decode code 533 = .ok (.iconst 1, 1) := by decide +kernel
theorem dL_534 : decode code 534 = .ok (.iadd, 1) := by decide +kernel
theorem dL_535 : decode code 535 = .ok (.iaload, 1) := by decide +kernel
theorem dL_536 : decode code 536 = .ok (.invokevirtual 72, 3) := by decide +kernel
theorem dL_539 : decode code 539 = .ok (.if_icmp .eq 693, 3) := by decide +kernel
theorem dL_542 : decode code 542 = .ok (.iconst 0, 1) := by decide +kernel
theorem dL_543 : decode code 543 = .ok (.ireturn, 1) := by decide +kernel
theorem dL_544 : decode code 544 = .ok (.aload_n 1, 1) := by decide +kernel
theorem dL_545 : decode code 545 = .ok (.aload_n 0, 1) := by decide +kernel
theorem dL_546 : decode code 546 = .ok (.iload_n 3, 1) := by decide +kernel
theorem dL_547 : decode code 547 = .ok (.iconst 1, 1) := by decide +kernel
theorem dL_548 : decode code 548 = .ok (.iadd, 1) := by decide +kernel
theorem dL_549 : decode code 549 = .ok (.iaload, 1) := by decide +kernel
theorem dL_550 : decode code 550 = .ok (.aload_n 0, 1) := by decide +kernel
theorem dL_551 : decode code 551 = .ok (.iload_n 3, 1) := by decide +kernel
theorem dL_552 : decode code 552 = .ok (.iconst 2, 1) := by decide +kernel
theorem dL_553 : decode code 553 = .ok (.iadd, 1) := by decide +kernel
theorem dL_554 : decode code 554 = .ok (.iaload, 1) := by decide +kernel
theorem dL_555 : decode code 555 = .ok (.invokevirtual 73, 3) := by decide +kernel
theorem dL_558 : decode code 558 = .ok (.aload_n 2, 1) := by decide +kernel
theorem dL_559 : decode code 559 = .ok (.aload_n 0, 1) := by decide +kernel
theorem dL_560 : decode code 560 = .ok (.iload_n 3, 1) := by decide +kernel
theorem dL_561 : decode code 561 = .ok (.iconst 1, 1) := by decide +kernel
theorem dL_562 : decode code 562 = .ok (.iadd, 1) := by decide +kernel
theorem dL_563 : decode code 563 = .ok (.iaload, 1) := by decide +kernel
theorem dL_564 : decode code 564 = .ok (.aload_n 0, 1) := by decide +kernel
theorem dL_565 : decode code 565 = .ok (.iload_n 3, 1) := by decide +kernel
theorem dL_566 : decode code 566 = .ok (.iconst 2, 1) := by decide +kernel
theorem dL_567 : decode code 567 = .ok (.iadd, 1) := by decide +kernel
theorem dL_568 : decode code 568 = .ok (.iaload, 1) := by decide +kernel
theorem dL_569 : decode code 569 = .ok (.invokevirtual 76, 3) := by decide +kernel
theorem dL_572 : decode code 572 = .ok (.if_icmp .eq 660, 3) := by decide +kernel
theorem dL_575 : decode code 575 = .ok (.iconst 0, 1) := by decide +kernel
theorem dL_576 : decode code 576 = .ok (.ireturn, 1) := by decide +kernel
theorem dL_577 : decode code 577 = .ok (.aload_n 1, 1) := by decide +kernel
theorem dL_578 : decode code 578 = .ok (.aload_n 0, 1) := by decide +kernel
theorem dL_579 : decode code 579 = .ok (.iload_n 3, 1) := by decide +kernel
theorem dL_580 : decode code 580 = .ok (.iconst 1, 1) := by decide +kernel
theorem dL_581 : decode code 581 = .ok (.iadd, 1) := by decide +kernel
theorem dL_582 : decode code 582 = .ok (.iaload, 1) := by decide +kernel
theorem dL_583 : decode code 583 = .ok (.invokevirtual 77, 3) := by decide +kernel
theorem dL_586 : decode code 586 = .ok (.aload_n 2, 1) := by decide +kernel
theorem dL_587 : decode code 587 = .ok (.aload_n 0, 1) := by decide +kernel
theorem dL_588 : decode code 588 = .ok (.iload_n 3, 1) := by decide +kernel
theorem dL_589 : decode code 589 = .ok (.iconst 1, 1) := by decide +kernel
theorem dL_590 : decode code 590 = .ok (.iadd, 1) := by decide +kernel
theorem dL_591 : decode code 591 = .ok (.iaload, 1) := by decide +kernel
theorem dL_592 : decode code 592 = .ok (.invokevirtual 80, 3) := by decide +kernel
theorem dL_595 : decode code 595 = .ok (.if_icmp .eq 637, 3) := by decide +kernel
theorem dL_598 : decode code 598 = .ok (.iconst 0, 1) := by decide +kernel
theorem dL_599 : decode code 599 = .ok (.ireturn, 1) := by decide +kernel
theorem dL_600 : decode code 600 = .ok (.aload_n 1, 1) := by decide +kernel
theorem dL_601 : decode code 601 = .ok (.aload_n 0, 1) := by decide +kernel
theorem dL_602 : decode code 602 = .ok (.iload_n 3, 1) := by decide +kernel
theorem dL_603 : decode code 603 = .ok (.iconst 1, 1) := by decide +kernel
theorem dL_604 : decode code 604 = .ok (.iadd, 1) := by decide +kernel
theorem dL_605 : decode code 605 = .ok (.iaload, 1) := by decide +kernel
theorem dL_606 : decode code 606 = .ok (.invokevirtual 81, 3) := by decide +kernel
theorem dL_609 : decode code 609 = .ok (.aload_n 2, 1) := by decide +kernel
theorem dL_610 : decode code 610 = .ok (.aload_n 0, 1) := by decide +kernel
theorem dL_611 : decode code 611 = .ok (.iload_n 3, 1) := by decide +kernel
theorem dL_612 : decode code 612 = .ok (.iconst 1, 1) := by decide +kernel
theorem dL_613 : decode code 613 = .ok (.iadd, 1) := by decide +kernel
theorem dL_614 : decode code 614 = .ok (.iaload, 1) := by decide +kernel
theorem dL_615 : decode code 615 = .ok (.invokevirtual 84, 3) := by decide +kernel
theorem dL_618 : decode code 618 = .ok (.if_icmp .eq 614, 3) := by decide +kernel
theorem dL_621 : decode code 621 = .ok (.iconst 0, 1) := by decide +kernel
theorem dL_622 : decode code 622 = .ok (.ireturn, 1) := by decide +kernel
theorem dL_623 : decode code 623 = .ok (.aload_n 1, 1) := by decide +kernel
theorem dL_624 : decode code 624 = .ok (.aload_n 0, 1) := by decide +kernel
theorem dL_625 : decode code 625 = .ok (.iload_n 3, 1) := by decide +kernel
theorem dL_626 : decode code 626 = .ok (.iconst 1, 1) := by decide +kernel
theorem dL_627 : decode code 627 = .ok (.iadd, 1) := by decide +kernel
theorem dL_628 : decode code 628 = .ok (.iaload, 1) := by decide +kernel
theorem dL_629 : decode code 629 = .ok (.aload_n 0, 1) := by decide +kernel
theorem dL_630 : decode code 630 = .ok (.iload_n 3, 1) := by decide +kernel
theorem dL_631 : decode code 631 = .ok (.iconst 2, 1) := by decide +kernel
theorem dL_632 : decode code 632 = .ok (.iadd, 1) := by decide +kernel
theorem dL_633 : decode code 633 = .ok (.iaload, 1) := by decide +kernel
theorem dL_634 : decode code 634 = .ok (.invokevirtual 85, 3) := by decide +kernel
theorem dL_637 : decode code 637 = .ok (.aload_n 2, 1) := by decide +kernel
theorem dL_638 : decode code 638 = .ok (.aload_n 0, 1) := by decide +kernel
theorem dL_639 : decode code 639 = .ok (.iload_n 3, 1) := by decide +kernel
theorem dL_640 : decode code 640 = .ok (.iconst 1, 1) := by decide +kernel
theorem dL_641 : decode code 641 = .ok (.iadd, 1) := by decide +kernel
theorem dL_642 : decode code 642 = .ok (.iaload, 1) := by decide +kernel
theorem dL_643 : decode code 643 = .ok (.aload_n 0, 1) := by decide +kernel
theorem dL_644 : decode code 644 = .ok (.iload_n 3, 1) := by decide +kernel
theorem dL_645 : decode code 645 = .ok (.iconst 2, 1) := by decide +kernel
theorem dL_646 : decode code 646 = .ok (.iadd, 1) := by decide +kernel
theorem dL_647 : decode code 647 = .ok (.iaload, 1) := by decide +kernel
theorem dL_648 : decode code 648 = .ok (.invokevirtual 88, 3) := by decide +kernel
theorem dL_651 : decode code 651 = .ok (.lcmp, 1) := by decide +kernel
theorem dL_652 : decode code 652 = .ok (.ifCond .eq 580, 3) := by decide +kernel
theorem dL_655 : decode code 655 = .ok (.iconst 0, 1) := by decide +kernel
theorem dL_656 : decode code 656 = .ok (.ireturn, 1) := by decide +kernel
theorem dL_657 : decode code 657 = .ok (.aload_n 1, 1) := by decide +kernel
theorem dL_658 : decode code 658 = .ok (.aload_n 0, 1) := by decide +kernel
theorem dL_659 : decode code 659 = .ok (.iload_n 3, 1) := by decide +kernel
theorem dL_660 : decode code 660 = .ok (.iconst 1, 1) := by decide +kernel
theorem dL_661 : decode code 661 = .ok (.iadd, 1) := by decide +kernel
theorem dL_662 : decode code 662 = .ok (.iaload, 1) := by decide +kernel
theorem dL_663 : decode code 663 = .ok (.invokevirtual 89, 3) := by decide +kernel
theorem dL_666 : decode code 666 = .ok (.aload_n 2, 1) := by decide +kernel
theorem dL_667 : decode code 667 = .ok (.aload_n 0, 1) := by decide +kernel
theorem dL_668 : decode code 668 = .ok (.iload_n 3, 1) := by decide +kernel
theorem dL_669 : decode code 669 = .ok (.iconst 1, 1) := by decide +kernel
theorem dL_670 : decode code 670 = .ok (.iadd, 1) := by decide +kernel
theorem dL_671 : decode code 671 = .ok (.iaload, 1) := by decide +kernel
theorem dL_672 : decode code 672 = .ok (.invokevirtual 92, 3) := by decide +kernel
theorem dL_675 : decode code 675 = .ok (.if_icmp .eq 557, 3) := by decide +kernel
theorem dL_678 : decode code 678 = .ok (.iconst 0, 1) := by decide +kernel
theorem dL_679 : decode code 679 = .ok (.ireturn, 1) := by decide +kernel
theorem dL_680 : decode code 680 = .ok (.aload_n 1, 1) := by decide +kernel
theorem dL_681 : decode code 681 = .ok (.aload_n 0, 1) := by decide +kernel
theorem dL_682 : decode code 682 = .ok (.iload_n 3, 1) := by decide +kernel
theorem dL_683 : decode code 683 = .ok (.iconst 1, 1) := by decide +kernel
theorem dL_684 : decode code 684 = .ok (.iadd, 1) := by decide +kernel
theorem dL_685 : decode code 685 = .ok (.iaload, 1) := by decide +kernel
theorem dL_686 : decode code 686 = .ok (.aload_n 0, 1) := by decide +kernel
theorem dL_687 : decode code 687 = .ok (.iload_n 3, 1) := by decide +kernel
theorem dL_688 : decode code 688 = .ok (.iconst 2, 1) := by decide +kernel
theorem dL_689 : decode code 689 = .ok (.iadd, 1) := by decide +kernel
theorem dL_690 : decode code 690 = .ok (.iaload, 1) := by decide +kernel
theorem dL_691 : decode code 691 = .ok (.aload_n 0, 1) := by decide +kernel
theorem dL_692 : decode code 692 = .ok (.iload_n 3, 1) := by decide +kernel
theorem dL_693 : decode code 693 = .ok (.iconst 3, 1) := by decide +kernel
theorem dL_694 : decode code 694 = .ok (.iadd, 1) := by decide +kernel
theorem dL_695 : decode code 695 = .ok (.iaload, 1) := by decide +kernel
theorem dL_696 : decode code 696 = .ok (.invokevirtual 93, 3) := by decide +kernel
theorem dL_699 : decode code 699 = .ok (.aload_n 2, 1) := by decide +kernel
theorem dL_700 : decode code 700 = .ok (.aload_n 0, 1) := by decide +kernel
theorem dL_701 : decode code 701 = .ok (.iload_n 3, 1) := by decide +kernel
theorem dL_702 : decode code 702 = .ok (.iconst 1, 1) := by decide +kernel
theorem dL_703 : decode code 703 = .ok (.iadd, 1) := by decide +kernel
theorem dL_704 : decode code 704 = .ok (.iaload, 1) := by decide +kernel
theorem dL_705 : decode code 705 = .ok (.aload_n 0, 1) := by decide +kernel
theorem dL_706 : decode code 706 = .ok (.iload_n 3, 1) := by decide +kernel
theorem dL_707 : decode code 707 = .ok (.iconst 2, 1) := by decide +kernel
theorem dL_708 : decode code 708 = .ok (.iadd, 1) := by decide +kernel
theorem dL_709 : decode code 709 = .ok (.iaload, 1) := by decide +kernel
theorem dL_710 : decode code 710 = .ok (.aload_n 0, 1) := by decide +kernel
theorem dL_711 : decode code 711 = .ok (.iload_n 3, 1) := by decide +kernel
theorem dL_712 : decode code 712 = .ok (.iconst 3, 1) := by decide +kernel
theorem dL_713 : decode code 713 = .ok (.iadd, 1) := by decide +kernel
theorem dL_714 : decode code 714 = .ok (.iaload, 1) := by decide +kernel
theorem dL_715 : decode code 715 = .ok (.invokevirtual 97, 3) := by decide +kernel
theorem dL_718 : decode code 718 = .ok (.lcmp, 1) := by decide +kernel
theorem dL_719 : decode code 719 = .ok (.ifCond .eq 513, 3) := by decide +kernel
theorem dL_722 : decode code 722 = .ok (.iconst 0, 1) := by decide +kernel
theorem dL_723 : decode code 723 = .ok (.ireturn, 1) := by decide +kernel
theorem dL_724 : decode code 724 = .ok (.aload_n 1, 1) := by decide +kernel
theorem dL_725 : decode code 725 = .ok (.invokevirtual 98, 3) := by decide +kernel
theorem dL_728 : decode code 728 = .ok (.aload_n 2, 1) := by decide +kernel
theorem dL_729 : decode code 729 = .ok (.invokevirtual 101, 3) := by decide +kernel
theorem dL_732 : decode code 732 = .ok (.if_icmp .eq 500, 3) := by decide +kernel
theorem dL_735 : decode code 735 = .ok (.iconst 0, 1) := by decide +kernel
theorem dL_736 : decode code 736 = .ok (.ireturn, 1) := by decide +kernel
theorem dL_737 : decode code 737 = .ok (.aload_n 1, 1) := by decide +kernel
theorem dL_738 : decode code 738 = .ok (.aload_n 0, 1) := by decide +kernel
theorem dL_739 : decode code 739 = .ok (.iload_n 3, 1) := by decide +kernel
theorem dL_740 : decode code 740 = .ok (.iconst 1, 1) := by decide +kernel
theorem dL_741 : decode code 741 = .ok (.iadd, 1) := by decide +kernel
theorem dL_742 : decode code 742 = .ok (.iaload, 1) := by decide +kernel
theorem dL_743 : decode code 743 = .ok (.aload_n 0, 1) := by decide +kernel
theorem dL_744 : decode code 744 = .ok (.iload_n 3, 1) := by decide +kernel
theorem dL_745 : decode code 745 = .ok (.iconst 2, 1) := by decide +kernel
theorem dL_746 : decode code 746 = .ok (.iadd, 1) := by decide +kernel
theorem dL_747 : decode code 747 = .ok (.iaload, 1) := by decide +kernel
theorem dL_748 : decode code 748 = .ok (.aload_n 0, 1) := by decide +kernel
theorem dL_749 : decode code 749 = .ok (.iload_n 3, 1) := by decide +kernel
theorem dL_750 : decode code 750 = .ok (.iconst 3, 1) := by decide +kernel
theorem dL_751 : decode code 751 = .ok (.iadd, 1) := by decide +kernel
theorem dL_752 : decode code 752 = .ok (.iaload, 1) := by decide +kernel
theorem dL_753 : decode code 753 = .ok (.aload_n 0, 1) := by decide +kernel
theorem dL_754 : decode code 754 = .ok (.iload_n 3, 1) := by decide +kernel
theorem dL_755 : decode code 755 = .ok (.iconst 4, 1) := by decide +kernel
theorem dL_756 : decode code 756 = .ok (.iadd, 1) := by decide +kernel
theorem dL_757 : decode code 757 = .ok (.iaload, 1) := by decide +kernel
theorem dL_758 : decode code 758 = .ok (.invokevirtual 102, 3) := by decide +kernel
theorem dL_761 : decode code 761 = .ok (.aload_n 2, 1) := by decide +kernel
theorem dL_762 : decode code 762 = .ok (.aload_n 0, 1) := by decide +kernel
theorem dL_763 : decode code 763 = .ok (.iload_n 3, 1) := by decide +kernel
theorem dL_764 : decode code 764 = .ok (.iconst 1, 1) := by decide +kernel
theorem dL_765 : decode code 765 = .ok (.iadd, 1) := by decide +kernel
theorem dL_766 : decode code 766 = .ok (.iaload, 1) := by decide +kernel
theorem dL_767 : decode code 767 = .ok (.aload_n 0, 1) := by decide +kernel
theorem dL_768 : decode code 768 = .ok (.iload_n 3, 1) := by decide +kernel
theorem dL_769 : decode code 769 = .ok (.iconst 2, 1) := by decide +kernel
theorem dL_770 : decode code 770 = .ok (.iadd, 1) := by decide +kernel
theorem dL_771 : decode code 771 = .ok (.iaload, 1) := by decide +kernel
theorem dL_772 : decode code 772 = .ok (.aload_n 0, 1) := by decide +kernel
theorem dL_773 : decode code 773 = .ok (.iload_n 3, 1) := by decide +kernel
theorem dL_774 : decode code 774 = .ok (.iconst 3, 1) := by decide +kernel
theorem dL_775 : decode code 775 = .ok (.iadd, 1) := by decide +kernel
theorem dL_776 : decode code 776 = .ok (.iaload, 1) := by decide +kernel
theorem dL_777 : decode code 777 = .ok (.aload_n 0, 1) := by decide +kernel
theorem dL_778 : decode code 778 = .ok (.iload_n 3, 1) := by decide +kernel
theorem dL_779 : decode code 779 = .ok (.iconst 4, 1) := by decide +kernel
theorem dL_780 : decode code 780 = .ok (.iadd, 1) := by decide +kernel
theorem dL_781 : decode code 781 = .ok (.iaload, 1) := by decide +kernel
theorem dL_782 : decode code 782 = .ok (.invokevirtual 106, 3) := by decide +kernel
theorem dL_785 : decode code 785 = .ok (.if_icmp .eq 447, 3) := by decide +kernel
theorem dL_788 : decode code 788 = .ok (.iconst 0, 1) := by decide +kernel
theorem dL_789 : decode code 789 = .ok (.ireturn, 1) := by decide +kernel
theorem dL_790 : decode code 790 = .ok (.aload_n 1, 1) := by decide +kernel
theorem dL_791 : decode code 791 = .ok (.aload_n 0, 1) := by decide +kernel
theorem dL_792 : decode code 792 = .ok (.iload_n 3, 1) := by decide +kernel
theorem dL_793 : decode code 793 = .ok (.iconst 1, 1) := by decide +kernel
theorem dL_794 : decode code 794 = .ok (.iadd, 1) := by decide +kernel
theorem dL_795 : decode code 795 = .ok (.iaload, 1) := by decide +kernel
theorem dL_796 : decode code 796 = .ok (.aload_n 0, 1) := by decide +kernel
theorem dL_797 : decode code 797 = .ok (.iload_n 3, 1) := by decide +kernel
theorem dL_798 : decode code 798 = .ok (.iconst 2, 1) := by decide +kernel
theorem dL_799 : decode code 799 = .ok (.iadd, 1) := by decide +kernel
theorem dL_800 : decode code 800 = .ok (.iaload, 1) := by decide +kernel
theorem dL_801 : decode code 801 = .ok (.invokevirtual 107, 3) := by decide +kernel
theorem dL_804 : decode code 804 = .ok (.aload_n 2, 1) := by decide +kernel
theorem dL_805 : decode code 805 = .ok (.aload_n 0, 1) := by decide +kernel
theorem dL_806 : decode code 806 = .ok (.iload_n 3, 1) := by decide +kernel
theorem dL_807 : decode code 807 = .ok (.iconst 1, 1) := by decide +kernel
theorem dL_808 : decode code 808 = .ok (.iadd, 1) := by decide +kernel
theorem dL_809 : decode code 809 = .ok (.iaload, 1) := by decide +kernel
theorem dL_810 : decode code 810 = .ok (.aload_n 0, 1) := by decide +kernel
theorem dL_811 : decode code 811 = .ok (.iload_n 3, 1) := by decide +kernel
theorem dL_812 : decode code 812 = .ok (.iconst 2, 1) := by decide +kernel
theorem dL_813 : decode code 813 = .ok (.iadd, 1) := by decide +kernel
theorem dL_814 : decode code 814 = .ok (.iaload, 1) := by decide +kernel
theorem dL_815 : decode code 815 = .ok (.invokevirtual 110, 3) := by decide +kernel
theorem dL_818 : decode code 818 = .ok (.if_icmp .eq 414, 3) := by decide +kernel
theorem dL_821 : decode code 821 = .ok (.iconst 0, 1) := by decide +kernel
theorem dL_822 : decode code 822 = .ok (.ireturn, 1) := by decide +kernel
theorem dL_823 : decode code 823 = .ok (.aload_n 1, 1) := by decide +kernel
theorem dL_824 : decode code 824 = .ok (.aload_n 0, 1) := by decide +kernel
theorem dL_825 : decode code 825 = .ok (.iload_n 3, 1) := by decide +kernel
theorem dL_826 : decode code 826 = .ok (.iconst 1, 1) := by decide +kernel
theorem dL_827 : decode code 827 = .ok (.iadd, 1) := by decide +kernel
theorem dL_828 : decode code 828 = .ok (.iaload, 1) := by decide +kernel
theorem dL_829 : decode code 829 = .ok (.invokevirtual 111, 3) := by decide +kernel
theorem dL_832 : decode code 832 = .ok (.aload_n 2, 1) := by decide +kernel
theorem dL_833 : decode code 833 = .ok (.aload_n 0, 1) := by decide +kernel
theorem dL_834 : decode code 834 = .ok (.iload_n 3, 1) := by decide +kernel
theorem dL_835 : decode code 835 = .ok (.iconst 1, 1) := by decide +kernel
theorem dL_836 : decode code 836 = .ok (.iadd, 1) := by decide +kernel
theorem dL_837 : decode code 837 = .ok (.iaload, 1) := by decide +kernel
theorem dL_838 : decode code 838 = .ok (.invokevirtual 114, 3) := by decide +kernel
theorem dL_841 : decode code 841 = .ok (.if_icmp .eq 391, 3) := by decide +kernel
theorem dL_844 : decode code 844 = .ok (.iconst 0, 1) := by decide +kernel
theorem dL_845 : decode code 845 = .ok (.ireturn, 1) := by decide +kernel
theorem dL_846 : decode code 846 = .ok (.aload_n 1, 1) := by decide +kernel
theorem dL_847 : decode code 847 = .ok (.aload_n 0, 1) := by decide +kernel
theorem dL_848 : decode code 848 = .ok (.iload_n 3, 1) := by decide +kernel
theorem dL_849 : decode code 849 = .ok (.iconst 1, 1) := by decide +kernel
theorem dL_850 : decode code 850 = .ok (.iadd, 1) := by decide +kernel
theorem dL_851 : decode code 851 = .ok (.iaload, 1) := by decide +kernel
theorem dL_852 : decode code 852 = .ok (.aload_n 0, 1) := by decide +kernel
theorem dL_853 : decode code 853 = .ok (.iload_n 3, 1) := by decide +kernel
theorem dL_854 : decode code 854 = .ok (.iconst 2, 1) := by decide +kernel
theorem dL_855 : decode code 855 = .ok (.iadd, 1) := by decide +kernel
theorem dL_856 : decode code 856 = .ok (.iaload, 1) := by decide +kernel
theorem dL_857 : decode code 857 = .ok (.invokevirtual 115, 3) := by decide +kernel
theorem dL_860 : decode code 860 = .ok (.aload_n 2, 1) := by decide +kernel
theorem dL_861 : decode code 861 = .ok (.aload_n 0, 1) := by decide +kernel
theorem dL_862 : decode code 862 = .ok (.iload_n 3, 1) := by decide +kernel
theorem dL_863 : decode code 863 = .ok (.iconst 1, 1) := by decide +kernel
theorem dL_864 : decode code 864 = .ok (.iadd, 1) := by decide +kernel
theorem dL_865 : decode code 865 = .ok (.iaload, 1) := by decide +kernel
theorem dL_866 : decode code 866 = .ok (.aload_n 0, 1) := by decide +kernel
theorem dL_867 : decode code 867 = .ok (.iload_n 3, 1) := by decide +kernel
theorem dL_868 : decode code 868 = .ok (.iconst 2, 1) := by decide +kernel
theorem dL_869 : decode code 869 = .ok (.iadd, 1) := by decide +kernel
theorem dL_870 : decode code 870 = .ok (.iaload, 1) := by decide +kernel
theorem dL_871 : decode code 871 = .ok (.invokevirtual 118, 3) := by decide +kernel
theorem dL_874 : decode code 874 = .ok (.if_icmp .eq 358, 3) := by decide +kernel
theorem dL_877 : decode code 877 = .ok (.iconst 0, 1) := by decide +kernel
theorem dL_878 : decode code 878 = .ok (.ireturn, 1) := by decide +kernel
theorem dL_879 : decode code 879 = .ok (.aload_n 1, 1) := by decide +kernel
theorem dL_880 : decode code 880 = .ok (.aload_n 0, 1) := by decide +kernel
theorem dL_881 : decode code 881 = .ok (.iload_n 3, 1) := by decide +kernel
theorem dL_882 : decode code 882 = .ok (.iconst 1, 1) := by decide +kernel
theorem dL_883 : decode code 883 = .ok (.iadd, 1) := by decide +kernel
theorem dL_884 : decode code 884 = .ok (.iaload, 1) := by decide +kernel
theorem dL_885 : decode code 885 = .ok (.aload_n 0, 1) := by decide +kernel
theorem dL_886 : decode code 886 = .ok (.iload_n 3, 1) := by decide +kernel
theorem dL_887 : decode code 887 = .ok (.iconst 2, 1) := by decide +kernel
theorem dL_888 : decode code 888 = .ok (.iadd, 1) := by decide +kernel
theorem dL_889 : decode code 889 = .ok (.iaload, 1) := by decide +kernel
theorem dL_890 : decode code 890 = .ok (.invokevirtual 119, 3) := by decide +kernel
theorem dL_893 : decode code 893 = .ok (.aload_n 2, 1) := by decide +kernel
theorem dL_894 : decode code 894 = .ok (.aload_n 0, 1) := by decide +kernel
theorem dL_895 : decode code 895 = .ok (.iload_n 3, 1) := by decide +kernel
theorem dL_896 : decode code 896 = .ok (.iconst 1, 1) := by decide +kernel
theorem dL_897 : decode code 897 = .ok (.iadd, 1) := by decide +kernel
theorem dL_898 : decode code 898 = .ok (.iaload, 1) := by decide +kernel
theorem dL_899 : decode code 899 = .ok (.aload_n 0, 1) := by decide +kernel
theorem dL_900 : decode code 900 = .ok (.iload_n 3, 1) := by decide +kernel
theorem dL_901 : decode code 901 = .ok (.iconst 2, 1) := by decide +kernel
theorem dL_902 : decode code 902 = .ok (.iadd, 1) := by decide +kernel
theorem dL_903 : decode code 903 = .ok (.iaload, 1) := by decide +kernel
theorem dL_904 : decode code 904 = .ok (.invokevirtual 122, 3) := by decide +kernel
theorem dL_907 : decode code 907 = .ok (.if_icmp .eq 325, 3) := by decide +kernel
theorem dL_910 : decode code 910 = .ok (.iconst 0, 1) := by decide +kernel
theorem dL_911 : decode code 911 = .ok (.ireturn, 1) := by decide +kernel
theorem dL_912 : decode code 912 = .ok (.aload_n 1, 1) := by decide +kernel
theorem dL_913 : decode code 913 = .ok (.aload_n 0, 1) := by decide +kernel
theorem dL_914 : decode code 914 = .ok (.iload_n 3, 1) := by decide +kernel
theorem dL_915 : decode code 915 = .ok (.iconst 1, 1) := by decide +kernel
theorem dL_916 : decode code 916 = .ok (.iadd, 1) := by decide +kernel
theorem dL_917 : decode code 917 = .ok (.iaload, 1) := by decide +kernel
theorem dL_918 : decode code 918 = .ok (.aload_n 0, 1) := by decide +kernel
theorem dL_919 : decode code 919 = .ok (.iload_n 3, 1) := by decide +kernel
theorem dL_920 : decode code 920 = .ok (.iconst 2, 1) := by decide +kernel
theorem dL_921 : decode code 921 = .ok (.iadd, 1) := by decide +kernel
theorem dL_922 : decode code 922 = .ok (.iaload, 1) := by decide +kernel
theorem dL_923 : decode code 923 = .ok (.aload_n 0, 1) := by decide +kernel
theorem dL_924 : decode code 924 = .ok (.iload_n 3, 1) := by decide +kernel
theorem dL_925 : decode code 925 = .ok (.iconst 3, 1) := by decide +kernel
theorem dL_926 : decode code 926 = .ok (.iadd, 1) := by decide +kernel
theorem dL_927 : decode code 927 = .ok (.iaload, 1) := by decide +kernel
theorem dL_928 : decode code 928 = .ok (.invokevirtual 123, 3) := by decide +kernel
theorem dL_931 : decode code 931 = .ok (.aload_n 2, 1) := by decide +kernel
theorem dL_932 : decode code 932 = .ok (.aload_n 0, 1) := by decide +kernel
theorem dL_933 : decode code 933 = .ok (.iload_n 3, 1) := by decide +kernel
theorem dL_934 : decode code 934 = .ok (.iconst 1, 1) := by decide +kernel
theorem dL_935 : decode code 935 = .ok (.iadd, 1) := by decide +kernel
theorem dL_936 : decode code 936 = .ok (.iaload, 1) := by decide +kernel
theorem dL_937 : decode code 937 = .ok (.aload_n 0, 1) := by decide +kernel
theorem dL_938 : decode code 938 = .ok (.iload_n 3, 1) := by decide +kernel
theorem dL_939 : decode code 939 = .ok (.iconst 2, 1) := by decide +kernel
theorem dL_940 : decode code 940 = .ok (.iadd, 1) := by decide +kernel
theorem dL_941 : decode code 941 = .ok (.iaload, 1) := by decide +kernel
theorem dL_942 : decode code 942 = .ok (.aload_n 0, 1) := by decide +kernel
theorem dL_943 : decode code 943 = .ok (.iload_n 3, 1) := by decide +kernel
theorem dL_944 : decode code 944 = .ok (.iconst 3, 1) := by decide +kernel
theorem dL_945 : decode code 945 = .ok (.iadd, 1) := by decide +kernel
theorem dL_946 : decode code 946 = .ok (.iaload, 1) := by decide +kernel
theorem dL_947 : decode code 947 = .ok (.invokevirtual 126, 3) := by decide +kernel
theorem dL_950 : decode code 950 = .ok (.if_icmp .eq 282, 3) := by decide +kernel
theorem dL_953 : decode code 953 = .ok (.iconst 0, 1) := by decide +kernel
theorem dL_954 : decode code 954 = .ok (.ireturn, 1) := by decide +kernel
theorem dL_955 : decode code 955 = .ok (.aload_n 1, 1) := by decide +kernel
theorem dL_956 : decode code 956 = .ok (.aload_n 0, 1) := by decide +kernel
theorem dL_957 : decode code 957 = .ok (.iload_n 3, 1) := by decide +kernel
theorem dL_958 : decode code 958 = .ok (.iconst 1, 1) := by decide +kernel
theorem dL_959 : decode code 959 = .ok (.iadd, 1) := by decide +kernel
theorem dL_960 : decode code 960 = .ok (.iaload, 1) := by decide +kernel
theorem dL_961 : decode code 961 = .ok (.invokevirtual 127, 3) := by decide +kernel
theorem dL_964 : decode code 964 = .ok (.aload_n 2, 1) := by decide +kernel
theorem dL_965 : decode code 965 = .ok (.aload_n 0, 1) := by decide +kernel
theorem dL_966 : decode code 966 = .ok (.iload_n 3, 1) := by decide +kernel
theorem dL_967 : decode code 967 = .ok (.iconst 1, 1) := by decide +kernel
theorem dL_968 : decode code 968 = .ok (.iadd, 1) := by decide +kernel
theorem dL_969 : decode code 969 = .ok (.iaload, 1) := by decide +kernel
theorem dL_970 : decode code 970 = .ok (.invokevirtual 130, 3) := by decide +kernel
theorem dL_973 : decode code 973 = .ok (.if_icmp .eq 259, 3) := by decide +kernel
theorem dL_976 : decode code 976 = .ok (.iconst 0, 1) := by decide +kernel
theorem dL_977 : decode code 977 = .ok (.ireturn, 1) := by decide +kernel
theorem dL_978 : decode code 978 = .ok (.aload_n 1, 1) := by decide +kernel
theorem dL_979 : decode code 979 = .ok (.aload_n 0, 1) := by decide +kernel
theorem dL_980 : decode code 980 = .ok (.iload_n 3, 1) := by decide +kernel
theorem dL_981 : decode code 981 = .ok (.iconst 1, 1) := by decide +kernel
theorem dL_982 : decode code 982 = .ok (.iadd, 1) := by decide +kernel
theorem dL_983 : decode code 983 = .ok (.iaload, 1) := by decide +kernel
theorem dL_984 : decode code 984 = .ok (.aload_n 0, 1) := by decide +kernel
theorem dL_985 : decode code 985 = .ok (.iload_n 3, 1) := by decide +kernel
theorem dL_986 : decode code 986 = .ok (.iconst 2, 1) := by decide +kernel
theorem dL_987 : decode code 987 = .ok (.iadd, 1) := by decide +kernel
theorem dL_988 : decode code 988 = .ok (.iaload, 1) := by decide +kernel
theorem dL_989 : decode code 989 = .ok (.aload_n 0, 1) := by decide +kernel
theorem dL_990 : decode code 990 = .ok (.iload_n 3, 1) := by decide +kernel
theorem dL_991 : decode code 991 = .ok (.iconst 3, 1) := by decide +kernel
theorem dL_992 : decode code 992 = .ok (.iadd, 1) := by decide +kernel
theorem dL_993 : decode code 993 = .ok (.iaload, 1) := by decide +kernel
theorem dL_994 : decode code 994 = .ok (.i2l, 1) := by decide +kernel
theorem dL_995 : decode code 995 = .ok (.bipush 32, 2) := by decide +kernel
theorem dL_997 : decode code 997 = .ok (.lshl, 1) := by decide +kernel
theorem dL_998 : decode code 998 = .ok (.aload_n 0, 1) := by decide +kernel
theorem dL_999 : decode code 999 = .ok (.iload_n 3, 1) := by decide +kernel
theorem dL_1000 : decode code 1000 = .ok (.iconst 4, 1) := by decide +kernel
theorem dL_1001 : decode code 1001 = .ok (.iadd, 1) := by decide +kernel
theorem dL_1002 : decode code 1002 = .ok (.iaload, 1) := by decide +kernel
theorem dL_1003 : decode code 1003 = .ok (.i2l, 1) := by decide +kernel
theorem dL_1004 : decode code 1004 = .ok (.ldc2_w 13, 3) := by decide +kernel
theorem dL_1007 : decode code 1007 = .ok (.land, 1) := by decide +kernel
theorem dL_1008 : decode code 1008 = .ok (.lor, 1) := by decide +kernel
theorem dL_1009 : decode code 1009 = .ok (.invokevirtual 131, 3) := by decide +kernel
theorem dL_1012 : decode code 1012 = .ok (.aload_n 2, 1) := by decide +kernel
theorem dL_1013 : decode code 1013 = .ok (.aload_n 0, 1) := by decide +kernel
theorem dL_1014 : decode code 1014 = .ok (.iload_n 3, 1) := by decide +kernel
theorem dL_1015 : decode code 1015 = .ok (.iconst 1, 1) := by decide +kernel
theorem dL_1016 : decode code 1016 = .ok (.iadd, 1) := by decide +kernel
theorem dL_1017 : decode code 1017 = .ok (.iaload, 1) := by decide +kernel
theorem dL_1018 : decode code 1018 = .ok (.aload_n 0, 1) := by decide +kernel
theorem dL_1019 : decode code 1019 = .ok (.iload_n 3, 1) := by decide +kernel
theorem dL_1020 : decode code 1020 = .ok (.iconst 2, 1) := by decide +kernel
theorem dL_1021 : decode code 1021 = .ok (.iadd, 1) := by decide +kernel
theorem dL_1022 : decode code 1022 = .ok (.iaload, 1) := by decide +kernel
theorem dL_1023 : decode code 1023 = .ok (.aload_n 0, 1) := by decide +kernel
theorem dL_1024 : decode code 1024 = .ok (.iload_n 3, 1) := by decide +kernel
theorem dL_1025 : decode code 1025 = .ok (.iconst 3, 1) := by decide +kernel
theorem dL_1026 : decode code 1026 = .ok (.iadd, 1) := by decide +kernel
theorem dL_1027 : decode code 1027 = .ok (.iaload, 1) := by decide +kernel
theorem dL_1028 : decode code 1028 = .ok (.i2l, 1) := by decide +kernel
theorem dL_1029 : decode code 1029 = .ok (.bipush 32, 2) := by decide +kernel
theorem dL_1031 : decode code 1031 = .ok (.lshl, 1) := by decide +kernel
theorem dL_1032 : decode code 1032 = .ok (.aload_n 0, 1) := by decide +kernel
theorem dL_1033 : decode code 1033 = .ok (.iload_n 3, 1) := by decide +kernel
theorem dL_1034 : decode code 1034 = .ok (.iconst 4, 1) := by decide +kernel
theorem dL_1035 : decode code 1035 = .ok (.iadd, 1) := by decide +kernel
theorem dL_1036 : decode code 1036 = .ok (.iaload, 1) := by decide +kernel
theorem dL_1037 : decode code 1037 = .ok (.i2l, 1) := by decide +kernel
theorem dL_1038 : decode code 1038 = .ok (.ldc2_w 13, 3) := by decide +kernel
theorem dL_1041 : decode code 1041 = .ok (.land, 1) := by decide +kernel
theorem dL_1042 : decode code 1042 = .ok (.lor, 1) := by decide +kernel
theorem dL_1043 : decode code 1043 = .ok (.invokevirtual 135, 3) := by decide +kernel
theorem dL_1046 : decode code 1046 = .ok (.lcmp, 1) := by decide +kernel
theorem dL_1047 : decode code 1047 = .ok (.ifCond .eq 185, 3) := by decide +kernel
theorem dL_1050 : decode code 1050 = .ok (.iconst 0, 1) := by decide +kernel
theorem dL_1051 : decode code 1051 = .ok (.ireturn, 1) := by decide +kernel
theorem dL_1052 : decode code 1052 = .ok (.aload_n 1, 1) := by decide +kernel
theorem dL_1053 : decode code 1053 = .ok (.aload_n 0, 1) := by decide +kernel
theorem dL_1054 : decode code 1054 = .ok (.iload_n 3, 1) := by decide +kernel
theorem dL_1055 : decode code 1055 = .ok (.iconst 1, 1) := by decide +kernel
theorem dL_1056 : decode code 1056 = .ok (.iadd, 1) := by decide +kernel
theorem dL_1057 : decode code 1057 = .ok (.iaload, 1) := by decide +kernel
theorem dL_1058 : decode code 1058 = .ok (.aload_n 0, 1) := by decide +kernel
theorem dL_1059 : decode code 1059 = .ok (.iload_n 3, 1) := by decide +kernel
theorem dL_1060 : decode code 1060 = .ok (.iconst 2, 1) := by decide +kernel
theorem dL_1061 : decode code 1061 = .ok (.iadd, 1) := by decide +kernel
theorem dL_1062 : decode code 1062 = .ok (.iaload, 1) := by decide +kernel
theorem dL_1063 : decode code 1063 = .ok (.invokevirtual 136, 3) := by decide +kernel
theorem dL_1066 : decode code 1066 = .ok (.aload_n 2, 1) := by decide +kernel
theorem dL_1067 : decode code 1067 = .ok (.aload_n 0, 1) := by decide +kernel
theorem dL_1068 : decode code 1068 = .ok (.iload_n 3, 1) := by decide +kernel
theorem dL_1069 : decode code 1069 = .ok (.iconst 1, 1) := by decide +kernel
theorem dL_1070 : decode code 1070 = .ok (.iadd, 1) := by decide +kernel
theorem dL_1071 : decode code 1071 = .ok (.iaload, 1) := by decide +kernel
theorem dL_1072 : decode code 1072 = .ok (.aload_n 0, 1) := by decide +kernel
theorem dL_1073 : decode code 1073 = .ok (.iload_n 3, 1) := by decide +kernel
theorem dL_1074 : decode code 1074 = .ok (.iconst 2, 1) := by decide +kernel
theorem dL_1075 : decode code 1075 = .ok (.iadd, 1) := by decide +kernel
theorem dL_1076 : decode code 1076 = .ok (.iaload, 1) := by decide +kernel
theorem dL_1077 : decode code 1077 = .ok (.invokevirtual 139, 3) := by decide +kernel
theorem dL_1080 : decode code 1080 = .ok (.lcmp, 1) := by decide +kernel
theorem dL_1081 : decode code 1081 = .ok (.ifCond .eq 151, 3) := by decide +kernel
theorem dL_1084 : decode code 1084 = .ok (.iconst 0, 1) := by decide +kernel
theorem dL_1085 : decode code 1085 = .ok (.ireturn, 1) := by decide +kernel
theorem dL_1086 : decode code 1086 = .ok (.aload_n 1, 1) := by decide +kernel
theorem dL_1087 : decode code 1087 = .ok (.aload_n 0, 1) := by decide +kernel
theorem dL_1088 : decode code 1088 = .ok (.iload_n 3, 1) := by decide +kernel
theorem dL_1089 : decode code 1089 = .ok (.iconst 1, 1) := by decide +kernel
theorem dL_1090 : decode code 1090 = .ok (.iadd, 1) := by decide +kernel
theorem dL_1091 : decode code 1091 = .ok (.iaload, 1) := by decide +kernel
theorem dL_1092 : decode code 1092 = .ok (.aload_n 0, 1) := by decide +kernel
theorem dL_1093 : decode code 1093 = .ok (.iload_n 3, 1) := by decide +kernel
theorem dL_1094 : decode code 1094 = .ok (.iconst 2, 1) := by decide +kernel
theorem dL_1095 : decode code 1095 = .ok (.iadd, 1) := by decide +kernel
theorem dL_1096 : decode code 1096 = .ok (.iaload, 1) := by decide +kernel
theorem dL_1097 : decode code 1097 = .ok (.aload_n 0, 1) := by decide +kernel
theorem dL_1098 : decode code 1098 = .ok (.iload_n 3, 1) := by decide +kernel
theorem dL_1099 : decode code 1099 = .ok (.iconst 3, 1) := by decide +kernel
theorem dL_1100 : decode code 1100 = .ok (.iadd, 1) := by decide +kernel
theorem dL_1101 : decode code 1101 = .ok (.iaload, 1) := by decide +kernel
theorem dL_1102 : decode code 1102 = .ok (.aload_n 0, 1) := by decide +kernel
theorem dL_1103 : decode code 1103 = .ok (.iload_n 3, 1) := by decide +kernel
theorem dL_1104 : decode code 1104 = .ok (.iconst 4, 1) := by decide +kernel
theorem dL_1105 : decode code 1105 = .ok (.iadd, 1) := by decide +kernel
theorem dL_1106 : decode code 1106 = .ok (.iaload, 1) := by decide +kernel
theorem dL_1107 : decode code 1107 = .ok (.aload_n 0, 1) := by decide +kernel
theorem dL_1108 : decode code 1108 = .ok (.iload_n 3, 1) := by decide +kernel
theorem dL_1109 : decode code 1109 = .ok (.iconst 5, 1) := by decide +kernel
theorem dL_1110 : decode code 1110 = .ok (.iadd, 1) := by decide +kernel
theorem dL_1111 : decode code 1111 = .ok (.iaload, 1) := by decide +kernel
theorem dL_1112 : decode code 1112 = .ok (.invokevirtual 140, 3) := by decide +kernel
theorem dL_1115 : decode code 1115 = .ok (.aload_n 2, 1) := by decide +kernel
theorem dL_1116 : decode code 1116 = .ok (.aload_n 0, 1) := by decide +kernel
theorem dL_1117 : decode code 1117 = .ok (.iload_n 3, 1) := by decide +kernel
theorem dL_1118 : decode code 1118 = .ok (.iconst 1, 1) := by decide +kernel
theorem dL_1119 : decode code 1119 = .ok (.iadd, 1) := by decide +kernel
theorem dL_1120 : decode code 1120 = .ok (.iaload, 1) := by decide +kernel
theorem dL_1121 : decode code 1121 = .ok (.aload_n 0, 1) := by decide +kernel
theorem dL_1122 : decode code 1122 = .ok (.iload_n 3, 1) := by decide +kernel
theorem dL_1123 : decode code 1123 = .ok (.iconst 2, 1) := by decide +kernel
theorem dL_1124 : decode code 1124 = .ok (.iadd, 1) := by decide +kernel
theorem dL_1125 : decode code 1125 = .ok (.iaload, 1) := by decide +kernel
theorem dL_1126 : decode code 1126 = .ok (.aload_n 0, 1) := by decide +kernel
theorem dL_1127 : decode code 1127 = .ok (.iload_n 3, 1) := by decide +kernel
theorem dL_1128 : decode code 1128 = .ok (.iconst 3, 1) := by decide +kernel
theorem dL_1129 : decode code 1129 = .ok (.iadd, 1) := by decide +kernel
theorem dL_1130 : decode code 1130 = .ok (.iaload, 1) := by decide +kernel
theorem dL_1131 : decode code 1131 = .ok (.aload_n 0, 1) := by decide +kernel
theorem dL_1132 : decode code 1132 = .ok (.iload_n 3, 1) := by decide +kernel
theorem dL_1133 : decode code 1133 = .ok (.iconst 4, 1) := by decide +kernel
theorem dL_1134 : decode code 1134 = .ok (.iadd, 1) := by decide +kernel
theorem dL_1135 : decode code 1135 = .ok (.iaload, 1) := by decide +kernel
theorem dL_1136 : decode code 1136 = .ok (.aload_n 0, 1) := by decide +kernel
theorem dL_1137 : decode code 1137 = .ok (.iload_n 3, 1) := by decide +kernel
theorem dL_1138 : decode code 1138 = .ok (.iconst 5, 1) := by decide +kernel
theorem dL_1139 : decode code 1139 = .ok (.iadd, 1) := by decide +kernel
theorem dL_1140 : decode code 1140 = .ok (.iaload, 1) := by decide +kernel
theorem dL_1141 : decode code 1141 = .ok (.invokevirtual 144, 3) := by decide +kernel
theorem dL_1144 : decode code 1144 = .ok (.if_icmp .eq 88, 3) := by decide +kernel
theorem dL_1147 : decode code 1147 = .ok (.iconst 0, 1) := by decide +kernel
theorem dL_1148 : decode code 1148 = .ok (.ireturn, 1) := by decide +kernel
theorem dL_1149 : decode code 1149 = .ok (.aload_n 1, 1) := by decide +kernel
theorem dL_1150 : decode code 1150 = .ok (.aload_n 0, 1) := by decide +kernel
theorem dL_1151 : decode code 1151 = .ok (.iload_n 3, 1) := by decide +kernel
theorem dL_1152 : decode code 1152 = .ok (.iconst 1, 1) := by decide +kernel
theorem dL_1153 : decode code 1153 = .ok (.iadd, 1) := by decide +kernel
theorem dL_1154 : decode code 1154 = .ok (.iaload, 1) := by decide +kernel
theorem dL_1155 : decode code 1155 = .ok (.aload_n 0, 1) := by decide +kernel
theorem dL_1156 : decode code 1156 = .ok (.iload_n 3, 1) := by decide +kernel
theorem dL_1157 : decode code 1157 = .ok (.iconst 2, 1) := by decide +kernel
theorem dL_1158 : decode code 1158 = .ok (.iadd, 1) := by decide +kernel
theorem dL_1159 : decode code 1159 = .ok (.iaload, 1) := by decide +kernel
theorem dL_1160 : decode code 1160 = .ok (.invokevirtual 145, 3) := by decide +kernel
theorem dL_1163 : decode code 1163 = .ok (.aload_n 2, 1) := by decide +kernel
theorem dL_1164 : decode code 1164 = .ok (.aload_n 0, 1) := by decide +kernel
theorem dL_1165 : decode code 1165 = .ok (.iload_n 3, 1) := by decide +kernel
theorem dL_1166 : decode code 1166 = .ok (.iconst 1, 1) := by decide +kernel
theorem dL_1167 : decode code 1167 = .ok (.iadd, 1) := by decide +kernel
theorem dL_1168 : decode code 1168 = .ok (.iaload, 1) := by decide +kernel
theorem dL_1169 : decode code 1169 = .ok (.aload_n 0, 1) := by decide +kernel
theorem dL_1170 : decode code 1170 = .ok (.iload_n 3, 1) := by decide +kernel
theorem dL_1171 : decode code 1171 = .ok (.iconst 2, 1) := by decide +kernel
theorem dL_1172 : decode code 1172 = .ok (.iadd, 1) := by decide +kernel
theorem dL_1173 : decode code 1173 = .ok (.iaload, 1) := by decide +kernel
theorem dL_1174 : decode code 1174 = .ok (.invokevirtual 148, 3) := by decide +kernel
theorem dL_1177 : decode code 1177 = .ok (.if_icmp .eq 55, 3) := by decide +kernel
theorem dL_1180 : decode code 1180 = .ok (.iconst 0, 1) := by decide +kernel
theorem dL_1181 : decode code 1181 = .ok (.ireturn, 1) := by decide +kernel
theorem dL_1182 : decode code 1182 = .ok (.aload_n 1, 1) := by decide +kernel
theorem dL_1183 : decode code 1183 = .ok (.aload_n 0, 1) := by decide +kernel
theorem dL_1184 : decode code 1184 = .ok (.iload_n 3, 1) := by decide +kernel
theorem dL_1185 : decode code 1185 = .ok (.iconst 1, 1) := by decide +kernel
theorem dL_1186 : decode code 1186 = .ok (.iadd, 1) := by decide +kernel
theorem dL_1187 : decode code 1187 = .ok (.iaload, 1) := by decide +kernel
theorem dL_1188 : decode code 1188 = .ok (.invokevirtual 149, 3) := by decide +kernel
theorem dL_1191 : decode code 1191 = .ok (.aload_n 2, 1) := by decide +kernel
theorem dL_1192 : decode code 1192 = .ok (.aload_n 0, 1) := by decide +kernel
theorem dL_1193 : decode code 1193 = .ok (.iload_n 3, 1) := by decide +kernel
theorem dL_1194 : decode code 1194 = .ok (.iconst 1, 1) := by decide +kernel
theorem dL_1195 : decode code 1195 = .ok (.iadd, 1) := by decide +kernel
theorem dL_1196 : decode code 1196 = .ok (.iaload, 1) := by decide +kernel
theorem dL_1197 : decode code 1197 = .ok (.invokevirtual 152, 3) := by decide +kernel
theorem dL_1200 : decode code 1200 = .ok (.if_icmp .eq 32, 3) := by decide +kernel
theorem dL_1203 : decode code 1203 = .ok (.iconst 0, 1) := by decide +kernel
theorem dL_1204 : decode code 1204 = .ok (.ireturn, 1) := by decide +kernel
theorem dL_1205 : decode code 1205 = .ok (.aload_n 1, 1) := by decide +kernel
theorem dL_1206 : decode code 1206 = .ok (.invokevirtual 153, 3) := by decide +kernel
theorem dL_1209 : decode code 1209 = .ok (.aload_n 2, 1) := by decide +kernel
theorem dL_1210 : decode code 1210 = .ok (.invokevirtual 156, 3) := by decide +kernel
theorem dL_1213 : decode code 1213 = .ok (.if_icmp .eq 19, 3) := by decide +kernel
theorem dL_1216 : decode code 1216 = .ok (.iconst 0, 1) := by decide +kernel
theorem dL_1217 : decode code 1217 = .ok (.ireturn, 1) := by decide +kernel
theorem dL_1218 : decode code 1218 = .ok (.aload_n 1, 1) := by decide +kernel
theorem dL_1219 : decode code 1219 = .ok (.invokevirtual 157, 3) := by decide +kernel
theorem dL_1222 : decode code 1222 = .ok (.aload_n 2, 1) := by decide +kernel
theorem dL_1223 : decode code 1223 = .ok (.invokevirtual 161, 3) := by decide +kernel
theorem dL_1226 : decode code 1226 = .ok (.lcmp, 1) := by decide +kernel
theorem dL_1227 : decode code 1227 = .ok (.ifCond .eq 5, 3) := by decide +kernel
theorem dL_1230 : decode code 1230 = .ok (.iconst 0, 1) := by decide +kernel
theorem dL_1231 : decode code 1231 = .ok (.ireturn, 1) := by decide +kernel
theorem dL_1232 : decode code 1232 = .ok (.iinc 3 6, 3) := by decide +kernel
theorem dL_1235 : decode code 1235 = .ok (.goto (-1217), 3) := by decide +kernel
theorem dL_1238 : decode code 1238 = .ok (.iconst 1, 1) := by decide +kernel
theorem dL_1239 : decode code 1239 = .ok (.ireturn, 1) := by decide +kernel
