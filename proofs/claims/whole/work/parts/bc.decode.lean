/-! THE LAW: its instructions -/
theorem dL_law_0 : decode code 0 = .ok (.new 7, 3) := by decide +kernel
theorem dL_law_3 : decode code 3 = .ok (.dup, 1) := by decide +kernel
theorem dL_law_4 : decode code 4 = .ok (.invokespecial 9, 3) := by decide +kernel
theorem dL_law_7 : decode code 7 = .ok (.astore_n 1, 1) := by decide +kernel
theorem dL_law_8 : decode code 8 = .ok (.new 10, 3) := by decide +kernel
theorem dL_law_11 : decode code 11 = .ok (.dup, 1) := by decide +kernel
theorem dL_law_12 : decode code 12 = .ok (.invokespecial 12, 3) := by decide +kernel
theorem dL_law_15 : decode code 15 = .ok (.astore_n 2, 1) := by decide +kernel
theorem dL_law_16 : decode code 16 = .ok (.iconst 0, 1) := by decide +kernel
theorem dL_law_17 : decode code 17 = .ok (.istore_n 3, 1) := by decide +kernel
theorem dL_law_18 : decode code 18 = .ok (.iload_n 3, 1) := by decide +kernel
theorem dL_law_19 : decode code 19 = .ok (.aload_n 0, 1) := by decide +kernel
theorem dL_law_20 : decode code 20 = .ok (.arraylength, 1) := by decide +kernel
theorem dL_law_21 : decode code 21 = .ok (.bipush 6, 2) := by decide +kernel
theorem dL_law_23 : decode code 23 = .ok (.isub, 1) := by decide +kernel
theorem dL_law_24 : decode code 24 = .ok (.if_icmp .gt 1497, 3) := by decide +kernel
theorem dL_law_27 : decode code 27 = .ok (.aload_n 0, 1) := by decide +kernel
theorem dL_law_28 : decode code 28 = .ok (.iload_n 3, 1) := by decide +kernel
theorem dL_law_29 : decode code 29 = .ok (.iaload, 1) := by decide +kernel
theorem dL_law_30 : decode code 30 = .ok (.bipush 63, 2) := by decide +kernel
theorem dL_law_32 : decode code 32 = .ok (.iand, 1) := by decide +kernel
theorem dL_law_33 : decode code 33 = .ok (.tableswitch 1482 0 44 #[195, 258, 281, 304, 337, 370, 413, 446, 479, 512, 535, 568, 601, 624, 657, 680, 713, 736, 769, 803, 826, 849, 862, 885, 898, 921, 944, 967, 980, 1003, 1016, 1039, 1052, 1085, 1118, 1141, 1164, 1187, 1230, 1263, 1306, 1380, 1413, 1436, 1459], 195) := by decide +kernel
theorem dL_law_228 : decode code 228 = .ok (.aload_n 1, 1) := by decide +kernel
theorem dL_law_229 : decode code 229 = .ok (.aload_n 0, 1) := by decide +kernel
theorem dL_law_230 : decode code 230 = .ok (.iload_n 3, 1) := by decide +kernel
theorem dL_law_231 : decode code 231 = .ok (.iconst 1, 1) := by decide +kernel
theorem dL_law_232 : decode code 232 = .ok (.iadd, 1) := by decide +kernel
theorem dL_law_233 : decode code 233 = .ok (.iaload, 1) := by decide +kernel
theorem dL_law_234 : decode code 234 = .ok (.aload_n 0, 1) := by decide +kernel
theorem dL_law_235 : decode code 235 = .ok (.iload_n 3, 1) := by decide +kernel
theorem dL_law_236 : decode code 236 = .ok (.iconst 2, 1) := by decide +kernel
theorem dL_law_237 : decode code 237 = .ok (.iadd, 1) := by decide +kernel
theorem dL_law_238 : decode code 238 = .ok (.iaload, 1) := by decide +kernel
theorem dL_law_239 : decode code 239 = .ok (.aload_n 0, 1) := by decide +kernel
theorem dL_law_240 : decode code 240 = .ok (.iload_n 3, 1) := by decide +kernel
theorem dL_law_241 : decode code 241 = .ok (.iconst 3, 1) := by decide +kernel
theorem dL_law_242 : decode code 242 = .ok (.iadd, 1) := by decide +kernel
theorem dL_law_243 : decode code 243 = .ok (.iaload, 1) := by decide +kernel
theorem dL_law_244 : decode code 244 = .ok (.aload_n 0, 1) := by decide +kernel
theorem dL_law_245 : decode code 245 = .ok (.iload_n 3, 1) := by decide +kernel
theorem dL_law_246 : decode code 246 = .ok (.iconst 4, 1) := by decide +kernel
theorem dL_law_247 : decode code 247 = .ok (.iadd, 1) := by decide +kernel
theorem dL_law_248 : decode code 248 = .ok (.iaload, 1) := by decide +kernel
theorem dL_law_249 : decode code 249 = .ok (.aload_n 0, 1) := by decide +kernel
theorem dL_law_250 : decode code 250 = .ok (.iload_n 3, 1) := by decide +kernel
theorem dL_law_251 : decode code 251 = .ok (.iconst 5, 1) := by decide +kernel
theorem dL_law_252 : decode code 252 = .ok (.iadd, 1) := by decide +kernel
theorem dL_law_253 : decode code 253 = .ok (.iaload, 1) := by decide +kernel
theorem dL_law_254 : decode code 254 = .ok (.invokevirtual 13, 3) := by decide +kernel
theorem dL_law_257 : decode code 257 = .ok (.aload_n 2, 1) := by decide +kernel
theorem dL_law_258 : decode code 258 = .ok (.aload_n 0, 1) := by decide +kernel
theorem dL_law_259 : decode code 259 = .ok (.iload_n 3, 1) := by decide +kernel
theorem dL_law_260 : decode code 260 = .ok (.iconst 1, 1) := by decide +kernel
theorem dL_law_261 : decode code 261 = .ok (.iadd, 1) := by decide +kernel
theorem dL_law_262 : decode code 262 = .ok (.iaload, 1) := by decide +kernel
theorem dL_law_263 : decode code 263 = .ok (.aload_n 0, 1) := by decide +kernel
theorem dL_law_264 : decode code 264 = .ok (.iload_n 3, 1) := by decide +kernel
theorem dL_law_265 : decode code 265 = .ok (.iconst 2, 1) := by decide +kernel
theorem dL_law_266 : decode code 266 = .ok (.iadd, 1) := by decide +kernel
theorem dL_law_267 : decode code 267 = .ok (.iaload, 1) := by decide +kernel
theorem dL_law_268 : decode code 268 = .ok (.aload_n 0, 1) := by decide +kernel
theorem dL_law_269 : decode code 269 = .ok (.iload_n 3, 1) := by decide +kernel
theorem dL_law_270 : decode code 270 = .ok (.iconst 3, 1) := by decide +kernel
theorem dL_law_271 : decode code 271 = .ok (.iadd, 1) := by decide +kernel
theorem dL_law_272 : decode code 272 = .ok (.iaload, 1) := by decide +kernel
theorem dL_law_273 : decode code 273 = .ok (.aload_n 0, 1) := by decide +kernel
theorem dL_law_274 : decode code 274 = .ok (.iload_n 3, 1) := by decide +kernel
theorem dL_law_275 : decode code 275 = .ok (.iconst 4, 1) := by decide +kernel
theorem dL_law_276 : decode code 276 = .ok (.iadd, 1) := by decide +kernel
theorem dL_law_277 : decode code 277 = .ok (.iaload, 1) := by decide +kernel
theorem dL_law_278 : decode code 278 = .ok (.aload_n 0, 1) := by decide +kernel
theorem dL_law_279 : decode code 279 = .ok (.iload_n 3, 1) := by decide +kernel
theorem dL_law_280 : decode code 280 = .ok (.iconst 5, 1) := by decide +kernel
theorem dL_law_281 : decode code 281 = .ok (.iadd, 1) := by decide +kernel
theorem dL_law_282 : decode code 282 = .ok (.iaload, 1) := by decide +kernel
theorem dL_law_283 : decode code 283 = .ok (.invokevirtual 17, 3) := by decide +kernel
theorem dL_law_286 : decode code 286 = .ok (.if_icmp .eq 1229, 3) := by decide +kernel
theorem dL_law_289 : decode code 289 = .ok (.iconst 0, 1) := by decide +kernel
theorem dL_law_290 : decode code 290 = .ok (.ireturn, 1) := by decide +kernel
theorem dL_law_291 : decode code 291 = .ok (.aload_n 1, 1) := by decide +kernel
theorem dL_law_292 : decode code 292 = .ok (.aload_n 0, 1) := by decide +kernel
theorem dL_law_293 : decode code 293 = .ok (.iload_n 3, 1) := by decide +kernel
theorem dL_law_294 : decode code 294 = .ok (.iconst 1, 1) := by decide +kernel
theorem dL_law_295 : decode code 295 = .ok (.iadd, 1) := by decide +kernel
theorem dL_law_296 : decode code 296 = .ok (.iaload, 1) := by decide +kernel
theorem dL_law_297 : decode code 297 = .ok (.invokevirtual 18, 3) := by decide +kernel
theorem dL_law_300 : decode code 300 = .ok (.aload_n 2, 1) := by decide +kernel
theorem dL_law_301 : decode code 301 = .ok (.aload_n 0, 1) := by decide +kernel
theorem dL_law_302 : decode code 302 = .ok (.iload_n 3, 1) := by decide +kernel
theorem dL_law_303 : decode code 303 = .ok (.iconst 1, 1) := by decide +kernel
theorem dL_law_304 : decode code 304 = .ok (.iadd, 1) := by decide +kernel
theorem dL_law_305 : decode code 305 = .ok (.iaload, 1) := by decide +kernel
theorem dL_law_306 : decode code 306 = .ok (.invokevirtual 22, 3) := by decide +kernel
theorem dL_law_309 : decode code 309 = .ok (.if_icmp .eq 1206, 3) := by decide +kernel
theorem dL_law_312 : decode code 312 = .ok (.iconst 0, 1) := by decide +kernel
theorem dL_law_313 : decode code 313 = .ok (.ireturn, 1) := by decide +kernel
theorem dL_law_314 : decode code 314 = .ok (.aload_n 1, 1) := by decide +kernel
theorem dL_law_315 : decode code 315 = .ok (.aload_n 0, 1) := by decide +kernel
theorem dL_law_316 : decode code 316 = .ok (.iload_n 3, 1) := by decide +kernel
theorem dL_law_317 : decode code 317 = .ok (.iconst 1, 1) := by decide +kernel
theorem dL_law_318 : decode code 318 = .ok (.iadd, 1) := by decide +kernel
theorem dL_law_319 : decode code 319 = .ok (.iaload, 1) := by decide +kernel
theorem dL_law_320 : decode code 320 = .ok (.invokevirtual 23, 3) := by decide +kernel
theorem dL_law_323 : decode code 323 = .ok (.aload_n 2, 1) := by decide +kernel
theorem dL_law_324 : decode code 324 = .ok (.aload_n 0, 1) := by decide +kernel
theorem dL_law_325 : decode code 325 = .ok (.iload_n 3, 1) := by decide +kernel
theorem dL_law_326 : decode code 326 = .ok (.iconst 1, 1) := by decide +kernel
theorem dL_law_327 : decode code 327 = .ok (.iadd, 1) := by decide +kernel
theorem dL_law_328 : decode code 328 = .ok (.iaload, 1) := by decide +kernel
theorem dL_law_329 : decode code 329 = .ok (.invokevirtual 26, 3) := by decide +kernel
theorem dL_law_332 : decode code 332 = .ok (.if_icmp .eq 1183, 3) := by decide +kernel
theorem dL_law_335 : decode code 335 = .ok (.iconst 0, 1) := by decide +kernel
theorem dL_law_336 : decode code 336 = .ok (.ireturn, 1) := by decide +kernel
theorem dL_law_337 : decode code 337 = .ok (.aload_n 1, 1) := by decide +kernel
theorem dL_law_338 : decode code 338 = .ok (.aload_n 0, 1) := by decide +kernel
theorem dL_law_339 : decode code 339 = .ok (.iload_n 3, 1) := by decide +kernel
theorem dL_law_340 : decode code 340 = .ok (.iconst 1, 1) := by decide +kernel
theorem dL_law_341 : decode code 341 = .ok (.iadd, 1) := by decide +kernel
theorem dL_law_342 : decode code 342 = .ok (.iaload, 1) := by decide +kernel
theorem dL_law_343 : decode code 343 = .ok (.aload_n 0, 1) := by decide +kernel
theorem dL_law_344 : decode code 344 = .ok (.iload_n 3, 1) := by decide +kernel
theorem dL_law_345 : decode code 345 = .ok (.iconst 2, 1) := by decide +kernel
theorem dL_law_346 : decode code 346 = .ok (.iadd, 1) := by decide +kernel
theorem dL_law_347 : decode code 347 = .ok (.iaload, 1) := by decide +kernel
theorem dL_law_348 : decode code 348 = .ok (.invokevirtual 27, 3) := by decide +kernel
theorem dL_law_351 : decode code 351 = .ok (.aload_n 2, 1) := by decide +kernel
theorem dL_law_352 : decode code 352 = .ok (.aload_n 0, 1) := by decide +kernel
theorem dL_law_353 : decode code 353 = .ok (.iload_n 3, 1) := by decide +kernel
theorem dL_law_354 : decode code 354 = .ok (.iconst 1, 1) := by decide +kernel
theorem dL_law_355 : decode code 355 = .ok (.iadd, 1) := by decide +kernel
theorem dL_law_356 : decode code 356 = .ok (.iaload, 1) := by decide +kernel
theorem dL_law_357 : decode code 357 = .ok (.aload_n 0, 1) := by decide +kernel
theorem dL_law_358 : decode code 358 = .ok (.iload_n 3, 1) := by decide +kernel
theorem dL_law_359 : decode code 359 = .ok (.iconst 2, 1) := by decide +kernel
theorem dL_law_360 : decode code 360 = .ok (.iadd, 1) := by decide +kernel
theorem dL_law_361 : decode code 361 = .ok (.iaload, 1) := by decide +kernel
theorem dL_law_362 : decode code 362 = .ok (.invokevirtual 31, 3) := by decide +kernel
theorem dL_law_365 : decode code 365 = .ok (.if_icmp .eq 1150, 3) := by decide +kernel
theorem dL_law_368 : decode code 368 = .ok (.iconst 0, 1) := by decide +kernel
theorem dL_law_369 : decode code 369 = .ok (.ireturn, 1) := by decide +kernel
theorem dL_law_370 : decode code 370 = .ok (.aload_n 1, 1) := by decide +kernel
theorem dL_law_371 : decode code 371 = .ok (.aload_n 0, 1) := by decide +kernel
theorem dL_law_372 : decode code 372 = .ok (.iload_n 3, 1) := by decide +kernel
theorem dL_law_373 : decode code 373 = .ok (.iconst 1, 1) := by decide +kernel
theorem dL_law_374 : decode code 374 = .ok (.iadd, 1) := by decide +kernel
theorem dL_law_375 : decode code 375 = .ok (.iaload, 1) := by decide +kernel
theorem dL_law_376 : decode code 376 = .ok (.aload_n 0, 1) := by decide +kernel
theorem dL_law_377 : decode code 377 = .ok (.iload_n 3, 1) := by decide +kernel
theorem dL_law_378 : decode code 378 = .ok (.iconst 2, 1) := by decide +kernel
theorem dL_law_379 : decode code 379 = .ok (.iadd, 1) := by decide +kernel
theorem dL_law_380 : decode code 380 = .ok (.iaload, 1) := by decide +kernel
theorem dL_law_381 : decode code 381 = .ok (.invokevirtual 32, 3) := by decide +kernel
theorem dL_law_384 : decode code 384 = .ok (.aload_n 2, 1) := by decide +kernel
theorem dL_law_385 : decode code 385 = .ok (.aload_n 0, 1) := by decide +kernel
theorem dL_law_386 : decode code 386 = .ok (.iload_n 3, 1) := by decide +kernel
theorem dL_law_387 : decode code 387 = .ok (.iconst 1, 1) := by decide +kernel
theorem dL_law_388 : decode code 388 = .ok (.iadd, 1) := by decide +kernel
theorem dL_law_389 : decode code 389 = .ok (.iaload, 1) := by decide +kernel
theorem dL_law_390 : decode code 390 = .ok (.aload_n 0, 1) := by decide +kernel
theorem dL_law_391 : decode code 391 = .ok (.iload_n 3, 1) := by decide +kernel
theorem dL_law_392 : decode code 392 = .ok (.iconst 2, 1) := by decide +kernel
theorem dL_law_393 : decode code 393 = .ok (.iadd, 1) := by decide +kernel
theorem dL_law_394 : decode code 394 = .ok (.iaload, 1) := by decide +kernel
theorem dL_law_395 : decode code 395 = .ok (.invokevirtual 35, 3) := by decide +kernel
theorem dL_law_398 : decode code 398 = .ok (.if_icmp .eq 1117, 3) := by decide +kernel
theorem dL_law_401 : decode code 401 = .ok (.iconst 0, 1) := by decide +kernel
theorem dL_law_402 : decode code 402 = .ok (.ireturn, 1) := by decide +kernel
theorem dL_law_403 : decode code 403 = .ok (.aload_n 1, 1) := by decide +kernel
theorem dL_law_404 : decode code 404 = .ok (.aload_n 0, 1) := by decide +kernel
theorem dL_law_405 : decode code 405 = .ok (.iload_n 3, 1) := by decide +kernel
theorem dL_law_406 : decode code 406 = .ok (.iconst 1, 1) := by decide +kernel
theorem dL_law_407 : decode code 407 = .ok (.iadd, 1) := by decide +kernel
theorem dL_law_408 : decode code 408 = .ok (.iaload, 1) := by decide +kernel
theorem dL_law_409 : decode code 409 = .ok (.aload_n 0, 1) := by decide +kernel
theorem dL_law_410 : decode code 410 = .ok (.iload_n 3, 1) := by decide +kernel
theorem dL_law_411 : decode code 411 = .ok (.iconst 2, 1) := by decide +kernel
theorem dL_law_412 : decode code 412 = .ok (.iadd, 1) := by decide +kernel
theorem dL_law_413 : decode code 413 = .ok (.iaload, 1) := by decide +kernel
theorem dL_law_414 : decode code 414 = .ok (.aload_n 0, 1) := by decide +kernel
theorem dL_law_415 : decode code 415 = .ok (.iload_n 3, 1) := by decide +kernel
theorem dL_law_416 : decode code 416 = .ok (.iconst 3, 1) := by decide +kernel
theorem dL_law_417 : decode code 417 = .ok (.iadd, 1) := by decide +kernel
theorem dL_law_418 : decode code 418 = .ok (.iaload, 1) := by decide +kernel
theorem dL_law_419 : decode code 419 = .ok (.invokevirtual 36, 3) := by decide +kernel
theorem dL_law_422 : decode code 422 = .ok (.aload_n 2, 1) := by decide +kernel
theorem dL_law_423 : decode code 423 = .ok (.aload_n 0, 1) := by decide +kernel
theorem dL_law_424 : decode code 424 = .ok (.iload_n 3, 1) := by decide +kernel
theorem dL_law_425 : decode code 425 = .ok (.iconst 1, 1) := by decide +kernel
theorem dL_law_426 : decode code 426 = .ok (.iadd, 1) := by decide +kernel
theorem dL_law_427 : decode code 427 = .ok (.iaload, 1) := by decide +kernel
theorem dL_law_428 : decode code 428 = .ok (.aload_n 0, 1) := by decide +kernel
theorem dL_law_429 : decode code 429 = .ok (.iload_n 3, 1) := by decide +kernel
theorem dL_law_430 : decode code 430 = .ok (.iconst 2, 1) := by decide +kernel
theorem dL_law_431 : decode code 431 = .ok (.iadd, 1) := by decide +kernel
theorem dL_law_432 : decode code 432 = .ok (.iaload, 1) := by decide +kernel
theorem dL_law_433 : decode code 433 = .ok (.aload_n 0, 1) := by decide +kernel
theorem dL_law_434 : decode code 434 = .ok (.iload_n 3, 1) := by decide +kernel
theorem dL_law_435 : decode code 435 = .ok (.iconst 3, 1) := by decide +kernel
theorem dL_law_436 : decode code 436 = .ok (.iadd, 1) := by decide +kernel
theorem dL_law_437 : decode code 437 = .ok (.iaload, 1) := by decide +kernel
theorem dL_law_438 : decode code 438 = .ok (.invokevirtual 40, 3) := by decide +kernel
theorem dL_law_441 : decode code 441 = .ok (.if_icmp .eq 1074, 3) := by decide +kernel
theorem dL_law_444 : decode code 444 = .ok (.iconst 0, 1) := by decide +kernel
theorem dL_law_445 : decode code 445 = .ok (.ireturn, 1) := by decide +kernel
theorem dL_law_446 : decode code 446 = .ok (.aload_n 1, 1) := by decide +kernel
theorem dL_law_447 : decode code 447 = .ok (.aload_n 0, 1) := by decide +kernel
theorem dL_law_448 : decode code 448 = .ok (.iload_n 3, 1) := by decide +kernel
theorem dL_law_449 : decode code 449 = .ok (.iconst 1, 1) := by decide +kernel
theorem dL_law_450 : decode code 450 = .ok (.iadd, 1) := by decide +kernel
theorem dL_law_451 : decode code 451 = .ok (.iaload, 1) := by decide +kernel
theorem dL_law_452 : decode code 452 = .ok (.aload_n 0, 1) := by decide +kernel
theorem dL_law_453 : decode code 453 = .ok (.iload_n 3, 1) := by decide +kernel
theorem dL_law_454 : decode code 454 = .ok (.iconst 2, 1) := by decide +kernel
theorem dL_law_455 : decode code 455 = .ok (.iadd, 1) := by decide +kernel
theorem dL_law_456 : decode code 456 = .ok (.iaload, 1) := by decide +kernel
theorem dL_law_457 : decode code 457 = .ok (.invokevirtual 41, 3) := by decide +kernel
theorem dL_law_460 : decode code 460 = .ok (.aload_n 2, 1) := by decide +kernel
theorem dL_law_461 : decode code 461 = .ok (.aload_n 0, 1) := by decide +kernel
theorem dL_law_462 : decode code 462 = .ok (.iload_n 3, 1) := by decide +kernel
theorem dL_law_463 : decode code 463 = .ok (.iconst 1, 1) := by decide +kernel
theorem dL_law_464 : decode code 464 = .ok (.iadd, 1) := by decide +kernel
theorem dL_law_465 : decode code 465 = .ok (.iaload, 1) := by decide +kernel
theorem dL_law_466 : decode code 466 = .ok (.aload_n 0, 1) := by decide +kernel
theorem dL_law_467 : decode code 467 = .ok (.iload_n 3, 1) := by decide +kernel
theorem dL_law_468 : decode code 468 = .ok (.iconst 2, 1) := by decide +kernel
theorem dL_law_469 : decode code 469 = .ok (.iadd, 1) := by decide +kernel
theorem dL_law_470 : decode code 470 = .ok (.iaload, 1) := by decide +kernel
theorem dL_law_471 : decode code 471 = .ok (.invokevirtual 44, 3) := by decide +kernel
theorem dL_law_474 : decode code 474 = .ok (.if_icmp .eq 1041, 3) := by decide +kernel
theorem dL_law_477 : decode code 477 = .ok (.iconst 0, 1) := by decide +kernel
theorem dL_law_478 : decode code 478 = .ok (.ireturn, 1) := by decide +kernel
theorem dL_law_479 : decode code 479 = .ok (.aload_n 1, 1) := by decide +kernel
theorem dL_law_480 : decode code 480 = .ok (.aload_n 0, 1) := by decide +kernel
theorem dL_law_481 : decode code 481 = .ok (.iload_n 3, 1) := by decide +kernel
theorem dL_law_482 : decode code 482 = .ok (.iconst 1, 1) := by decide +kernel
theorem dL_law_483 : decode code 483 = .ok (.iadd, 1) := by decide +kernel
theorem dL_law_484 : decode code 484 = .ok (.iaload, 1) := by decide +kernel
theorem dL_law_485 : decode code 485 = .ok (.aload_n 0, 1) := by decide +kernel
theorem dL_law_486 : decode code 486 = .ok (.iload_n 3, 1) := by decide +kernel
theorem dL_law_487 : decode code 487 = .ok (.iconst 2, 1) := by decide +kernel
theorem dL_law_488 : decode code 488 = .ok (.iadd, 1) := by decide +kernel
theorem dL_law_489 : decode code 489 = .ok (.iaload, 1) := by decide +kernel
theorem dL_law_490 : decode code 490 = .ok (.invokevirtual 45, 3) := by decide +kernel
theorem dL_law_493 : decode code 493 = .ok (.aload_n 2, 1) := by decide +kernel
theorem dL_law_494 : decode code 494 = .ok (.aload_n 0, 1) := by decide +kernel
theorem dL_law_495 : decode code 495 = .ok (.iload_n 3, 1) := by decide +kernel
theorem dL_law_496 : decode code 496 = .ok (.iconst 1, 1) := by decide +kernel
theorem dL_law_497 : decode code 497 = .ok (.iadd, 1) := by decide +kernel
theorem dL_law_498 : decode code 498 = .ok (.iaload, 1) := by decide +kernel
theorem dL_law_499 : decode code 499 = .ok (.aload_n 0, 1) := by decide +kernel
theorem dL_law_500 : decode code 500 = .ok (.iload_n 3, 1) := by decide +kernel
theorem dL_law_501 : decode code 501 = .ok (.iconst 2, 1) := by decide +kernel
theorem dL_law_502 : decode code 502 = .ok (.iadd, 1) := by decide +kernel
theorem dL_law_503 : decode code 503 = .ok (.iaload, 1) := by decide +kernel
theorem dL_law_504 : decode code 504 = .ok (.invokevirtual 48, 3) := by decide +kernel
theorem dL_law_507 : decode code 507 = .ok (.if_icmp .eq 1008, 3) := by decide +kernel
theorem dL_law_510 : decode code 510 = .ok (.iconst 0, 1) := by decide +kernel
theorem dL_law_511 : decode code 511 = .ok (.ireturn, 1) := by decide +kernel
theorem dL_law_512 : decode code 512 = .ok (.aload_n 1, 1) := by decide +kernel
theorem dL_law_513 : decode code 513 = .ok (.aload_n 0, 1) := by decide +kernel
theorem dL_law_514 : decode code 514 = .ok (.iload_n 3, 1) := by decide +kernel
theorem dL_law_515 : decode code 515 = .ok (.iconst 1, 1) := by decide +kernel
theorem dL_law_516 : decode code 516 = .ok (.iadd, 1) := by decide +kernel
theorem dL_law_517 : decode code 517 = .ok (.iaload, 1) := by decide +kernel
theorem dL_law_518 : decode code 518 = .ok (.aload_n 0, 1) := by decide +kernel
theorem dL_law_519 : decode code 519 = .ok (.iload_n 3, 1) := by decide +kernel
theorem dL_law_520 : decode code 520 = .ok (.iconst 2, 1) := by decide +kernel
theorem dL_law_521 : decode code 521 = .ok (.iadd, 1) := by decide +kernel
theorem dL_law_522 : decode code 522 = .ok (.iaload, 1) := by decide +kernel
theorem dL_law_523 : decode code 523 = .ok (.invokevirtual 49, 3) := by decide +kernel
theorem dL_law_526 : decode code 526 = .ok (.aload_n 2, 1) := by decide +kernel
theorem dL_law_527 : decode code 527 = .ok (.aload_n 0, 1) := by decide +kernel
theorem dL_law_528 : decode code 528 = .ok (.iload_n 3, 1) := by decide +kernel
theorem dL_law_529 : decode code 529 = .ok (.iconst 1, 1) := by decide +kernel
theorem dL_law_530 : decode code 530 = .ok (.iadd, 1) := by decide +kernel
theorem dL_law_531 : decode code 531 = .ok (.iaload, 1) := by decide +kernel
theorem dL_law_532 : decode code 532 = .ok (.aload_n 0, 1) := by decide +kernel
theorem dL_law_533 : decode code 533 = .ok (.iload_n 3, 1) := by decide +kernel
theorem dL_law_534 : decode code 534 = .ok (.iconst 2, 1) := by decide +kernel
theorem dL_law_535 : decode code 535 = .ok (.iadd, 1) := by decide +kernel
theorem dL_law_536 : decode code 536 = .ok (.iaload, 1) := by decide +kernel
theorem dL_law_537 : decode code 537 = .ok (.invokevirtual 52, 3) := by decide +kernel
theorem dL_law_540 : decode code 540 = .ok (.if_icmp .eq 975, 3) := by decide +kernel
theorem dL_law_543 : decode code 543 = .ok (.iconst 0, 1) := by decide +kernel
theorem dL_law_544 : decode code 544 = .ok (.ireturn, 1) := by decide +kernel
theorem dL_law_545 : decode code 545 = .ok (.aload_n 1, 1) := by decide +kernel
theorem dL_law_546 : decode code 546 = .ok (.aload_n 0, 1) := by decide +kernel
theorem dL_law_547 : decode code 547 = .ok (.iload_n 3, 1) := by decide +kernel
theorem dL_law_548 : decode code 548 = .ok (.iconst 1, 1) := by decide +kernel
theorem dL_law_549 : decode code 549 = .ok (.iadd, 1) := by decide +kernel
theorem dL_law_550 : decode code 550 = .ok (.iaload, 1) := by decide +kernel
theorem dL_law_551 : decode code 551 = .ok (.invokevirtual 53, 3) := by decide +kernel
theorem dL_law_554 : decode code 554 = .ok (.aload_n 2, 1) := by decide +kernel
theorem dL_law_555 : decode code 555 = .ok (.aload_n 0, 1) := by decide +kernel
theorem dL_law_556 : decode code 556 = .ok (.iload_n 3, 1) := by decide +kernel
theorem dL_law_557 : decode code 557 = .ok (.iconst 1, 1) := by decide +kernel
theorem dL_law_558 : decode code 558 = .ok (.iadd, 1) := by decide +kernel
theorem dL_law_559 : decode code 559 = .ok (.iaload, 1) := by decide +kernel
theorem dL_law_560 : decode code 560 = .ok (.invokevirtual 56, 3) := by decide +kernel
theorem dL_law_563 : decode code 563 = .ok (.if_icmp .eq 952, 3) := by decide +kernel
theorem dL_law_566 : decode code 566 = .ok (.iconst 0, 1) := by decide +kernel
theorem dL_law_567 : decode code 567 = .ok (.ireturn, 1) := by decide +kernel
theorem dL_law_568 : decode code 568 = .ok (.aload_n 1, 1) := by decide +kernel
theorem dL_law_569 : decode code 569 = .ok (.aload_n 0, 1) := by decide +kernel
theorem dL_law_570 : decode code 570 = .ok (.iload_n 3, 1) := by decide +kernel
theorem dL_law_571 : decode code 571 = .ok (.iconst 1, 1) := by decide +kernel
theorem dL_law_572 : decode code 572 = .ok (.iadd, 1) := by decide +kernel
theorem dL_law_573 : decode code 573 = .ok (.iaload, 1) := by decide +kernel
theorem dL_law_574 : decode code 574 = .ok (.aload_n 0, 1) := by decide +kernel
theorem dL_law_575 : decode code 575 = .ok (.iload_n 3, 1) := by decide +kernel
theorem dL_law_576 : decode code 576 = .ok (.iconst 2, 1) := by decide +kernel
theorem dL_law_577 : decode code 577 = .ok (.iadd, 1) := by decide +kernel
theorem dL_law_578 : decode code 578 = .ok (.iaload, 1) := by decide +kernel
theorem dL_law_579 : decode code 579 = .ok (.invokevirtual 57, 3) := by decide +kernel
theorem dL_law_582 : decode code 582 = .ok (.aload_n 2, 1) := by decide +kernel
theorem dL_law_583 : decode code 583 = .ok (.aload_n 0, 1) := by decide +kernel
theorem dL_law_584 : decode code 584 = .ok (.iload_n 3, 1) := by decide +kernel
theorem dL_law_585 : decode code 585 = .ok (.iconst 1, 1) := by decide +kernel
theorem dL_law_586 : decode code 586 = .ok (.iadd, 1) := by decide +kernel
theorem dL_law_587 : decode code 587 = .ok (.iaload, 1) := by decide +kernel
theorem dL_law_588 : decode code 588 = .ok (.aload_n 0, 1) := by decide +kernel
theorem dL_law_589 : decode code 589 = .ok (.iload_n 3, 1) := by decide +kernel
theorem dL_law_590 : decode code 590 = .ok (.iconst 2, 1) := by decide +kernel
theorem dL_law_591 : decode code 591 = .ok (.iadd, 1) := by decide +kernel
theorem dL_law_592 : decode code 592 = .ok (.iaload, 1) := by decide +kernel
theorem dL_law_593 : decode code 593 = .ok (.invokevirtual 60, 3) := by decide +kernel
theorem dL_law_596 : decode code 596 = .ok (.if_icmp .eq 919, 3) := by decide +kernel
theorem dL_law_599 : decode code 599 = .ok (.iconst 0, 1) := by decide +kernel
theorem dL_law_600 : decode code 600 = .ok (.ireturn, 1) := by decide +kernel
theorem dL_law_601 : decode code 601 = .ok (.aload_n 1, 1) := by decide +kernel
theorem dL_law_602 : decode code 602 = .ok (.aload_n 0, 1) := by decide +kernel
theorem dL_law_603 : decode code 603 = .ok (.iload_n 3, 1) := by decide +kernel
theorem dL_law_604 : decode code 604 = .ok (.iconst 1, 1) := by decide +kernel
theorem dL_law_605 : decode code 605 = .ok (.iadd, 1) := by decide +kernel
theorem dL_law_606 : decode code 606 = .ok (.iaload, 1) := by decide +kernel
theorem dL_law_607 : decode code 607 = .ok (.aload_n 0, 1) := by decide +kernel
theorem dL_law_608 : decode code 608 = .ok (.iload_n 3, 1) := by decide +kernel
theorem dL_law_609 : decode code 609 = .ok (.iconst 2, 1) := by decide +kernel
theorem dL_law_610 : decode code 610 = .ok (.iadd, 1) := by decide +kernel
theorem dL_law_611 : decode code 611 = .ok (.iaload, 1) := by decide +kernel
theorem dL_law_612 : decode code 612 = .ok (.invokevirtual 61, 3) := by decide +kernel
theorem dL_law_615 : decode code 615 = .ok (.aload_n 2, 1) := by decide +kernel
theorem dL_law_616 : decode code 616 = .ok (.aload_n 0, 1) := by decide +kernel
theorem dL_law_617 : decode code 617 = .ok (.iload_n 3, 1) := by decide +kernel
theorem dL_law_618 : decode code 618 = .ok (.iconst 1, 1) := by decide +kernel
theorem dL_law_619 : decode code 619 = .ok (.iadd, 1) := by decide +kernel
theorem dL_law_620 : decode code 620 = .ok (.iaload, 1) := by decide +kernel
theorem dL_law_621 : decode code 621 = .ok (.aload_n 0, 1) := by decide +kernel
theorem dL_law_622 : decode code 622 = .ok (.iload_n 3, 1) := by decide +kernel
theorem dL_law_623 : decode code 623 = .ok (.iconst 2, 1) := by decide +kernel
theorem dL_law_624 : decode code 624 = .ok (.iadd, 1) := by decide +kernel
theorem dL_law_625 : decode code 625 = .ok (.iaload, 1) := by decide +kernel
theorem dL_law_626 : decode code 626 = .ok (.invokevirtual 64, 3) := by decide +kernel
theorem dL_law_629 : decode code 629 = .ok (.if_icmp .eq 886, 3) := by decide +kernel
theorem dL_law_632 : decode code 632 = .ok (.iconst 0, 1) := by decide +kernel
theorem dL_law_633 : decode code 633 = .ok (.ireturn, 1) := by decide +kernel
theorem dL_law_634 : decode code 634 = .ok (.aload_n 1, 1) := by decide +kernel
theorem dL_law_635 : decode code 635 = .ok (.aload_n 0, 1) := by decide +kernel
theorem dL_law_636 : decode code 636 = .ok (.iload_n 3, 1) := by decide +kernel
theorem dL_law_637 : decode code 637 = .ok (.iconst 1, 1) := by decide +kernel
theorem dL_law_638 : decode code 638 = .ok (.iadd, 1) := by decide +kernel
theorem dL_law_639 : decode code 639 = .ok (.iaload, 1) := by decide +kernel
theorem dL_law_640 : decode code 640 = .ok (.invokevirtual 65, 3) := by decide +kernel
theorem dL_law_643 : decode code 643 = .ok (.aload_n 2, 1) := by decide +kernel
theorem dL_law_644 : decode code 644 = .ok (.aload_n 0, 1) := by decide +kernel
theorem dL_law_645 : decode code 645 = .ok (.iload_n 3, 1) := by decide +kernel
theorem dL_law_646 : decode code 646 = .ok (.iconst 1, 1) := by decide +kernel
theorem dL_law_647 : decode code 647 = .ok (.iadd, 1) := by decide +kernel
theorem dL_law_648 : decode code 648 = .ok (.iaload, 1) := by decide +kernel
theorem dL_law_649 : decode code 649 = .ok (.invokevirtual 68, 3) := by decide +kernel
theorem dL_law_652 : decode code 652 = .ok (.if_icmp .eq 863, 3) := by decide +kernel
theorem dL_law_655 : decode code 655 = .ok (.iconst 0, 1) := by decide +kernel
theorem dL_law_656 : decode code 656 = .ok (.ireturn, 1) := by decide +kernel
theorem dL_law_657 : decode code 657 = .ok (.aload_n 1, 1) := by decide +kernel
theorem dL_law_658 : decode code 658 = .ok (.aload_n 0, 1) := by decide +kernel
theorem dL_law_659 : decode code 659 = .ok (.iload_n 3, 1) := by decide +kernel
theorem dL_law_660 : decode code 660 = .ok (.iconst 1, 1) := by decide +kernel
theorem dL_law_661 : decode code 661 = .ok (.iadd, 1) := by decide +kernel
theorem dL_law_662 : decode code 662 = .ok (.iaload, 1) := by decide +kernel
theorem dL_law_663 : decode code 663 = .ok (.aload_n 0, 1) := by decide +kernel
theorem dL_law_664 : decode code 664 = .ok (.iload_n 3, 1) := by decide +kernel
theorem dL_law_665 : decode code 665 = .ok (.iconst 2, 1) := by decide +kernel
theorem dL_law_666 : decode code 666 = .ok (.iadd, 1) := by decide +kernel
theorem dL_law_667 : decode code 667 = .ok (.iaload, 1) := by decide +kernel
theorem dL_law_668 : decode code 668 = .ok (.invokevirtual 69, 3) := by decide +kernel
theorem dL_law_671 : decode code 671 = .ok (.aload_n 2, 1) := by decide +kernel
theorem dL_law_672 : decode code 672 = .ok (.aload_n 0, 1) := by decide +kernel
theorem dL_law_673 : decode code 673 = .ok (.iload_n 3, 1) := by decide +kernel
theorem dL_law_674 : decode code 674 = .ok (.iconst 1, 1) := by decide +kernel
theorem dL_law_675 : decode code 675 = .ok (.iadd, 1) := by decide +kernel
theorem dL_law_676 : decode code 676 = .ok (.iaload, 1) := by decide +kernel
theorem dL_law_677 : decode code 677 = .ok (.aload_n 0, 1) := by decide +kernel
theorem dL_law_678 : decode code 678 = .ok (.iload_n 3, 1) := by decide +kernel
theorem dL_law_679 : decode code 679 = .ok (.iconst 2, 1) := by decide +kernel
theorem dL_law_680 : decode code 680 = .ok (.iadd, 1) := by decide +kernel
theorem dL_law_681 : decode code 681 = .ok (.iaload, 1) := by decide +kernel
theorem dL_law_682 : decode code 682 = .ok (.invokevirtual 72, 3) := by decide +kernel
theorem dL_law_685 : decode code 685 = .ok (.if_icmp .eq 830, 3) := by decide +kernel
theorem dL_law_688 : decode code 688 = .ok (.iconst 0, 1) := by decide +kernel
theorem dL_law_689 : decode code 689 = .ok (.ireturn, 1) := by decide +kernel
theorem dL_law_690 : decode code 690 = .ok (.aload_n 1, 1) := by decide +kernel
theorem dL_law_691 : decode code 691 = .ok (.aload_n 0, 1) := by decide +kernel
theorem dL_law_692 : decode code 692 = .ok (.iload_n 3, 1) := by decide +kernel
theorem dL_law_693 : decode code 693 = .ok (.iconst 1, 1) := by decide +kernel
theorem dL_law_694 : decode code 694 = .ok (.iadd, 1) := by decide +kernel
theorem dL_law_695 : decode code 695 = .ok (.iaload, 1) := by decide +kernel
theorem dL_law_696 : decode code 696 = .ok (.invokevirtual 73, 3) := by decide +kernel
theorem dL_law_699 : decode code 699 = .ok (.aload_n 2, 1) := by decide +kernel
theorem dL_law_700 : decode code 700 = .ok (.aload_n 0, 1) := by decide +kernel
theorem dL_law_701 : decode code 701 = .ok (.iload_n 3, 1) := by decide +kernel
theorem dL_law_702 : decode code 702 = .ok (.iconst 1, 1) := by decide +kernel
theorem dL_law_703 : decode code 703 = .ok (.iadd, 1) := by decide +kernel
theorem dL_law_704 : decode code 704 = .ok (.iaload, 1) := by decide +kernel
theorem dL_law_705 : decode code 705 = .ok (.invokevirtual 76, 3) := by decide +kernel
theorem dL_law_708 : decode code 708 = .ok (.if_icmp .eq 807, 3) := by decide +kernel
theorem dL_law_711 : decode code 711 = .ok (.iconst 0, 1) := by decide +kernel
theorem dL_law_712 : decode code 712 = .ok (.ireturn, 1) := by decide +kernel
theorem dL_law_713 : decode code 713 = .ok (.aload_n 1, 1) := by decide +kernel
theorem dL_law_714 : decode code 714 = .ok (.aload_n 0, 1) := by decide +kernel
theorem dL_law_715 : decode code 715 = .ok (.iload_n 3, 1) := by decide +kernel
theorem dL_law_716 : decode code 716 = .ok (.iconst 1, 1) := by decide +kernel
theorem dL_law_717 : decode code 717 = .ok (.iadd, 1) := by decide +kernel
theorem dL_law_718 : decode code 718 = .ok (.iaload, 1) := by decide +kernel
theorem dL_law_719 : decode code 719 = .ok (.aload_n 0, 1) := by decide +kernel
theorem dL_law_720 : decode code 720 = .ok (.iload_n 3, 1) := by decide +kernel
theorem dL_law_721 : decode code 721 = .ok (.iconst 2, 1) := by decide +kernel
theorem dL_law_722 : decode code 722 = .ok (.iadd, 1) := by decide +kernel
theorem dL_law_723 : decode code 723 = .ok (.iaload, 1) := by decide +kernel
theorem dL_law_724 : decode code 724 = .ok (.invokevirtual 77, 3) := by decide +kernel
theorem dL_law_727 : decode code 727 = .ok (.aload_n 2, 1) := by decide +kernel
theorem dL_law_728 : decode code 728 = .ok (.aload_n 0, 1) := by decide +kernel
theorem dL_law_729 : decode code 729 = .ok (.iload_n 3, 1) := by decide +kernel
theorem dL_law_730 : decode code 730 = .ok (.iconst 1, 1) := by decide +kernel
theorem dL_law_731 : decode code 731 = .ok (.iadd, 1) := by decide +kernel
theorem dL_law_732 : decode code 732 = .ok (.iaload, 1) := by decide +kernel
theorem dL_law_733 : decode code 733 = .ok (.aload_n 0, 1) := by decide +kernel
theorem dL_law_734 : decode code 734 = .ok (.iload_n 3, 1) := by decide +kernel
theorem dL_law_735 : decode code 735 = .ok (.iconst 2, 1) := by decide +kernel
theorem dL_law_736 : decode code 736 = .ok (.iadd, 1) := by decide +kernel
theorem dL_law_737 : decode code 737 = .ok (.iaload, 1) := by decide +kernel
theorem dL_law_738 : decode code 738 = .ok (.invokevirtual 80, 3) := by decide +kernel
theorem dL_law_741 : decode code 741 = .ok (.if_icmp .eq 774, 3) := by decide +kernel
theorem dL_law_744 : decode code 744 = .ok (.iconst 0, 1) := by decide +kernel
theorem dL_law_745 : decode code 745 = .ok (.ireturn, 1) := by decide +kernel
theorem dL_law_746 : decode code 746 = .ok (.aload_n 1, 1) := by decide +kernel
theorem dL_law_747 : decode code 747 = .ok (.aload_n 0, 1) := by decide +kernel
theorem dL_law_748 : decode code 748 = .ok (.iload_n 3, 1) := by decide +kernel
theorem dL_law_749 : decode code 749 = .ok (.iconst 1, 1) := by decide +kernel
theorem dL_law_750 : decode code 750 = .ok (.iadd, 1) := by decide +kernel
theorem dL_law_751 : decode code 751 = .ok (.iaload, 1) := by decide +kernel
theorem dL_law_752 : decode code 752 = .ok (.invokevirtual 81, 3) := by decide +kernel
theorem dL_law_755 : decode code 755 = .ok (.aload_n 2, 1) := by decide +kernel
theorem dL_law_756 : decode code 756 = .ok (.aload_n 0, 1) := by decide +kernel
theorem dL_law_757 : decode code 757 = .ok (.iload_n 3, 1) := by decide +kernel
theorem dL_law_758 : decode code 758 = .ok (.iconst 1, 1) := by decide +kernel
theorem dL_law_759 : decode code 759 = .ok (.iadd, 1) := by decide +kernel
theorem dL_law_760 : decode code 760 = .ok (.iaload, 1) := by decide +kernel
theorem dL_law_761 : decode code 761 = .ok (.invokevirtual 84, 3) := by decide +kernel
theorem dL_law_764 : decode code 764 = .ok (.if_icmp .eq 751, 3) := by decide +kernel
theorem dL_law_767 : decode code 767 = .ok (.iconst 0, 1) := by decide +kernel
theorem dL_law_768 : decode code 768 = .ok (.ireturn, 1) := by decide +kernel
theorem dL_law_769 : decode code 769 = .ok (.aload_n 1, 1) := by decide +kernel
theorem dL_law_770 : decode code 770 = .ok (.aload_n 0, 1) := by decide +kernel
theorem dL_law_771 : decode code 771 = .ok (.iload_n 3, 1) := by decide +kernel
theorem dL_law_772 : decode code 772 = .ok (.iconst 1, 1) := by decide +kernel
theorem dL_law_773 : decode code 773 = .ok (.iadd, 1) := by decide +kernel
theorem dL_law_774 : decode code 774 = .ok (.iaload, 1) := by decide +kernel
theorem dL_law_775 : decode code 775 = .ok (.aload_n 0, 1) := by decide +kernel
theorem dL_law_776 : decode code 776 = .ok (.iload_n 3, 1) := by decide +kernel
theorem dL_law_777 : decode code 777 = .ok (.iconst 2, 1) := by decide +kernel
theorem dL_law_778 : decode code 778 = .ok (.iadd, 1) := by decide +kernel
theorem dL_law_779 : decode code 779 = .ok (.iaload, 1) := by decide +kernel
theorem dL_law_780 : decode code 780 = .ok (.invokevirtual 85, 3) := by decide +kernel
theorem dL_law_783 : decode code 783 = .ok (.aload_n 2, 1) := by decide +kernel
theorem dL_law_784 : decode code 784 = .ok (.aload_n 0, 1) := by decide +kernel
theorem dL_law_785 : decode code 785 = .ok (.iload_n 3, 1) := by decide +kernel
theorem dL_law_786 : decode code 786 = .ok (.iconst 1, 1) := by decide +kernel
theorem dL_law_787 : decode code 787 = .ok (.iadd, 1) := by decide +kernel
theorem dL_law_788 : decode code 788 = .ok (.iaload, 1) := by decide +kernel
theorem dL_law_789 : decode code 789 = .ok (.aload_n 0, 1) := by decide +kernel
theorem dL_law_790 : decode code 790 = .ok (.iload_n 3, 1) := by decide +kernel
theorem dL_law_791 : decode code 791 = .ok (.iconst 2, 1) := by decide +kernel
theorem dL_law_792 : decode code 792 = .ok (.iadd, 1) := by decide +kernel
theorem dL_law_793 : decode code 793 = .ok (.iaload, 1) := by decide +kernel
theorem dL_law_794 : decode code 794 = .ok (.invokevirtual 88, 3) := by decide +kernel
theorem dL_law_797 : decode code 797 = .ok (.if_icmp .eq 718, 3) := by decide +kernel
theorem dL_law_800 : decode code 800 = .ok (.iconst 0, 1) := by decide +kernel
theorem dL_law_801 : decode code 801 = .ok (.ireturn, 1) := by decide +kernel
theorem dL_law_802 : decode code 802 = .ok (.aload_n 1, 1) := by decide +kernel
theorem dL_law_803 : decode code 803 = .ok (.aload_n 0, 1) := by decide +kernel
theorem dL_law_804 : decode code 804 = .ok (.iload_n 3, 1) := by decide +kernel
theorem dL_law_805 : decode code 805 = .ok (.iconst 1, 1) := by decide +kernel
theorem dL_law_806 : decode code 806 = .ok (.iadd, 1) := by decide +kernel
theorem dL_law_807 : decode code 807 = .ok (.iaload, 1) := by decide +kernel
theorem dL_law_808 : decode code 808 = .ok (.aload_n 0, 1) := by decide +kernel
theorem dL_law_809 : decode code 809 = .ok (.iload_n 3, 1) := by decide +kernel
theorem dL_law_810 : decode code 810 = .ok (.iconst 2, 1) := by decide +kernel
theorem dL_law_811 : decode code 811 = .ok (.iadd, 1) := by decide +kernel
theorem dL_law_812 : decode code 812 = .ok (.iaload, 1) := by decide +kernel
theorem dL_law_813 : decode code 813 = .ok (.invokevirtual 89, 3) := by decide +kernel
theorem dL_law_816 : decode code 816 = .ok (.aload_n 2, 1) := by decide +kernel
theorem dL_law_817 : decode code 817 = .ok (.aload_n 0, 1) := by decide +kernel
theorem dL_law_818 : decode code 818 = .ok (.iload_n 3, 1) := by decide +kernel
theorem dL_law_819 : decode code 819 = .ok (.iconst 1, 1) := by decide +kernel
theorem dL_law_820 : decode code 820 = .ok (.iadd, 1) := by decide +kernel
theorem dL_law_821 : decode code 821 = .ok (.iaload, 1) := by decide +kernel
theorem dL_law_822 : decode code 822 = .ok (.aload_n 0, 1) := by decide +kernel
theorem dL_law_823 : decode code 823 = .ok (.iload_n 3, 1) := by decide +kernel
theorem dL_law_824 : decode code 824 = .ok (.iconst 2, 1) := by decide +kernel
theorem dL_law_825 : decode code 825 = .ok (.iadd, 1) := by decide +kernel
theorem dL_law_826 : decode code 826 = .ok (.iaload, 1) := by decide +kernel
theorem dL_law_827 : decode code 827 = .ok (.invokevirtual 93, 3) := by decide +kernel
theorem dL_law_830 : decode code 830 = .ok (.lcmp, 1) := by decide +kernel
theorem dL_law_831 : decode code 831 = .ok (.ifCond .eq 684, 3) := by decide +kernel
theorem dL_law_834 : decode code 834 = .ok (.iconst 0, 1) := by decide +kernel
theorem dL_law_835 : decode code 835 = .ok (.ireturn, 1) := by decide +kernel
theorem dL_law_836 : decode code 836 = .ok (.aload_n 1, 1) := by decide +kernel
theorem dL_law_837 : decode code 837 = .ok (.aload_n 0, 1) := by decide +kernel
theorem dL_law_838 : decode code 838 = .ok (.iload_n 3, 1) := by decide +kernel
theorem dL_law_839 : decode code 839 = .ok (.iconst 1, 1) := by decide +kernel
theorem dL_law_840 : decode code 840 = .ok (.iadd, 1) := by decide +kernel
theorem dL_law_841 : decode code 841 = .ok (.iaload, 1) := by decide +kernel
theorem dL_law_842 : decode code 842 = .ok (.invokevirtual 94, 3) := by decide +kernel
theorem dL_law_845 : decode code 845 = .ok (.aload_n 2, 1) := by decide +kernel
theorem dL_law_846 : decode code 846 = .ok (.aload_n 0, 1) := by decide +kernel
theorem dL_law_847 : decode code 847 = .ok (.iload_n 3, 1) := by decide +kernel
theorem dL_law_848 : decode code 848 = .ok (.iconst 1, 1) := by decide +kernel
theorem dL_law_849 : decode code 849 = .ok (.iadd, 1) := by decide +kernel
theorem dL_law_850 : decode code 850 = .ok (.iaload, 1) := by decide +kernel
theorem dL_law_851 : decode code 851 = .ok (.invokevirtual 97, 3) := by decide +kernel
theorem dL_law_854 : decode code 854 = .ok (.if_icmp .eq 661, 3) := by decide +kernel
theorem dL_law_857 : decode code 857 = .ok (.iconst 0, 1) := by decide +kernel
theorem dL_law_858 : decode code 858 = .ok (.ireturn, 1) := by decide +kernel
theorem dL_law_859 : decode code 859 = .ok (.aload_n 1, 1) := by decide +kernel
theorem dL_law_860 : decode code 860 = .ok (.aload_n 0, 1) := by decide +kernel
theorem dL_law_861 : decode code 861 = .ok (.iload_n 3, 1) := by decide +kernel
theorem dL_law_862 : decode code 862 = .ok (.iconst 1, 1) := by decide +kernel
theorem dL_law_863 : decode code 863 = .ok (.iadd, 1) := by decide +kernel
theorem dL_law_864 : decode code 864 = .ok (.iaload, 1) := by decide +kernel
theorem dL_law_865 : decode code 865 = .ok (.invokevirtual 98, 3) := by decide +kernel
theorem dL_law_868 : decode code 868 = .ok (.aload_n 2, 1) := by decide +kernel
theorem dL_law_869 : decode code 869 = .ok (.aload_n 0, 1) := by decide +kernel
theorem dL_law_870 : decode code 870 = .ok (.iload_n 3, 1) := by decide +kernel
theorem dL_law_871 : decode code 871 = .ok (.iconst 1, 1) := by decide +kernel
theorem dL_law_872 : decode code 872 = .ok (.iadd, 1) := by decide +kernel
theorem dL_law_873 : decode code 873 = .ok (.iaload, 1) := by decide +kernel
theorem dL_law_874 : decode code 874 = .ok (.invokevirtual 101, 3) := by decide +kernel
theorem dL_law_877 : decode code 877 = .ok (.if_icmp .eq 638, 3) := by decide +kernel
theorem dL_law_880 : decode code 880 = .ok (.iconst 0, 1) := by decide +kernel
theorem dL_law_881 : decode code 881 = .ok (.ireturn, 1) := by decide +kernel
theorem dL_law_882 : decode code 882 = .ok (.aload_n 1, 1) := by decide +kernel
theorem dL_law_883 : decode code 883 = .ok (.invokevirtual 102, 3) := by decide +kernel
theorem dL_law_886 : decode code 886 = .ok (.aload_n 2, 1) := by decide +kernel
theorem dL_law_887 : decode code 887 = .ok (.invokevirtual 106, 3) := by decide +kernel
theorem dL_law_890 : decode code 890 = .ok (.if_icmp .eq 625, 3) := by decide +kernel
theorem dL_law_893 : decode code 893 = .ok (.iconst 0, 1) := by decide +kernel
theorem dL_law_894 : decode code 894 = .ok (.ireturn, 1) := by decide +kernel
theorem dL_law_895 : decode code 895 = .ok (.aload_n 1, 1) := by decide +kernel
theorem dL_law_896 : decode code 896 = .ok (.aload_n 0, 1) := by decide +kernel
theorem dL_law_897 : decode code 897 = .ok (.iload_n 3, 1) := by decide +kernel
theorem dL_law_898 : decode code 898 = .ok (.iconst 1, 1) := by decide +kernel
theorem dL_law_899 : decode code 899 = .ok (.iadd, 1) := by decide +kernel
theorem dL_law_900 : decode code 900 = .ok (.iaload, 1) := by decide +kernel
theorem dL_law_901 : decode code 901 = .ok (.invokevirtual 107, 3) := by decide +kernel
theorem dL_law_904 : decode code 904 = .ok (.aload_n 2, 1) := by decide +kernel
theorem dL_law_905 : decode code 905 = .ok (.aload_n 0, 1) := by decide +kernel
theorem dL_law_906 : decode code 906 = .ok (.iload_n 3, 1) := by decide +kernel
theorem dL_law_907 : decode code 907 = .ok (.iconst 1, 1) := by decide +kernel
theorem dL_law_908 : decode code 908 = .ok (.iadd, 1) := by decide +kernel
theorem dL_law_909 : decode code 909 = .ok (.iaload, 1) := by decide +kernel
theorem dL_law_910 : decode code 910 = .ok (.invokevirtual 110, 3) := by decide +kernel
theorem dL_law_913 : decode code 913 = .ok (.if_icmp .eq 602, 3) := by decide +kernel
theorem dL_law_916 : decode code 916 = .ok (.iconst 0, 1) := by decide +kernel
theorem dL_law_917 : decode code 917 = .ok (.ireturn, 1) := by decide +kernel
theorem dL_law_918 : decode code 918 = .ok (.aload_n 1, 1) := by decide +kernel
theorem dL_law_919 : decode code 919 = .ok (.invokevirtual 111, 3) := by decide +kernel
theorem dL_law_922 : decode code 922 = .ok (.aload_n 2, 1) := by decide +kernel
theorem dL_law_923 : decode code 923 = .ok (.invokevirtual 114, 3) := by decide +kernel
theorem dL_law_926 : decode code 926 = .ok (.if_icmp .eq 589, 3) := by decide +kernel
theorem dL_law_929 : decode code 929 = .ok (.iconst 0, 1) := by decide +kernel
theorem dL_law_930 : decode code 930 = .ok (.ireturn, 1) := by decide +kernel
theorem dL_law_931 : decode code 931 = .ok (.aload_n 1, 1) := by decide +kernel
theorem dL_law_932 : decode code 932 = .ok (.aload_n 0, 1) := by decide +kernel
theorem dL_law_933 : decode code 933 = .ok (.iload_n 3, 1) := by decide +kernel
theorem dL_law_934 : decode code 934 = .ok (.iconst 1, 1) := by decide +kernel
theorem dL_law_935 : decode code 935 = .ok (.iadd, 1) := by decide +kernel
theorem dL_law_936 : decode code 936 = .ok (.iaload, 1) := by decide +kernel
theorem dL_law_937 : decode code 937 = .ok (.invokevirtual 115, 3) := by decide +kernel
theorem dL_law_940 : decode code 940 = .ok (.aload_n 2, 1) := by decide +kernel
theorem dL_law_941 : decode code 941 = .ok (.aload_n 0, 1) := by decide +kernel
theorem dL_law_942 : decode code 942 = .ok (.iload_n 3, 1) := by decide +kernel
theorem dL_law_943 : decode code 943 = .ok (.iconst 1, 1) := by decide +kernel
theorem dL_law_944 : decode code 944 = .ok (.iadd, 1) := by decide +kernel
theorem dL_law_945 : decode code 945 = .ok (.iaload, 1) := by decide +kernel
theorem dL_law_946 : decode code 946 = .ok (.invokevirtual 118, 3) := by decide +kernel
theorem dL_law_949 : decode code 949 = .ok (.if_icmp .eq 566, 3) := by decide +kernel
theorem dL_law_952 : decode code 952 = .ok (.iconst 0, 1) := by decide +kernel
theorem dL_law_953 : decode code 953 = .ok (.ireturn, 1) := by decide +kernel
theorem dL_law_954 : decode code 954 = .ok (.aload_n 1, 1) := by decide +kernel
theorem dL_law_955 : decode code 955 = .ok (.aload_n 0, 1) := by decide +kernel
theorem dL_law_956 : decode code 956 = .ok (.iload_n 3, 1) := by decide +kernel
theorem dL_law_957 : decode code 957 = .ok (.iconst 1, 1) := by decide +kernel
theorem dL_law_958 : decode code 958 = .ok (.iadd, 1) := by decide +kernel
theorem dL_law_959 : decode code 959 = .ok (.iaload, 1) := by decide +kernel
theorem dL_law_960 : decode code 960 = .ok (.invokevirtual 119, 3) := by decide +kernel
theorem dL_law_963 : decode code 963 = .ok (.aload_n 2, 1) := by decide +kernel
theorem dL_law_964 : decode code 964 = .ok (.aload_n 0, 1) := by decide +kernel
theorem dL_law_965 : decode code 965 = .ok (.iload_n 3, 1) := by decide +kernel
theorem dL_law_966 : decode code 966 = .ok (.iconst 1, 1) := by decide +kernel
theorem dL_law_967 : decode code 967 = .ok (.iadd, 1) := by decide +kernel
theorem dL_law_968 : decode code 968 = .ok (.iaload, 1) := by decide +kernel
theorem dL_law_969 : decode code 969 = .ok (.invokevirtual 122, 3) := by decide +kernel
theorem dL_law_972 : decode code 972 = .ok (.if_icmp .eq 543, 3) := by decide +kernel
theorem dL_law_975 : decode code 975 = .ok (.iconst 0, 1) := by decide +kernel
theorem dL_law_976 : decode code 976 = .ok (.ireturn, 1) := by decide +kernel
theorem dL_law_977 : decode code 977 = .ok (.aload_n 1, 1) := by decide +kernel
theorem dL_law_978 : decode code 978 = .ok (.aload_n 0, 1) := by decide +kernel
theorem dL_law_979 : decode code 979 = .ok (.iload_n 3, 1) := by decide +kernel
theorem dL_law_980 : decode code 980 = .ok (.iconst 1, 1) := by decide +kernel
theorem dL_law_981 : decode code 981 = .ok (.iadd, 1) := by decide +kernel
theorem dL_law_982 : decode code 982 = .ok (.iaload, 1) := by decide +kernel
theorem dL_law_983 : decode code 983 = .ok (.invokevirtual 123, 3) := by decide +kernel
theorem dL_law_986 : decode code 986 = .ok (.aload_n 2, 1) := by decide +kernel
theorem dL_law_987 : decode code 987 = .ok (.aload_n 0, 1) := by decide +kernel
theorem dL_law_988 : decode code 988 = .ok (.iload_n 3, 1) := by decide +kernel
theorem dL_law_989 : decode code 989 = .ok (.iconst 1, 1) := by decide +kernel
theorem dL_law_990 : decode code 990 = .ok (.iadd, 1) := by decide +kernel
theorem dL_law_991 : decode code 991 = .ok (.iaload, 1) := by decide +kernel
theorem dL_law_992 : decode code 992 = .ok (.invokevirtual 126, 3) := by decide +kernel
theorem dL_law_995 : decode code 995 = .ok (.if_icmp .eq 520, 3) := by decide +kernel
theorem dL_law_998 : decode code 998 = .ok (.iconst 0, 1) := by decide +kernel
theorem dL_law_999 : decode code 999 = .ok (.ireturn, 1) := by decide +kernel
theorem dL_law_1000 : decode code 1000 = .ok (.aload_n 1, 1) := by decide +kernel
theorem dL_law_1001 : decode code 1001 = .ok (.invokevirtual 127, 3) := by decide +kernel
theorem dL_law_1004 : decode code 1004 = .ok (.aload_n 2, 1) := by decide +kernel
theorem dL_law_1005 : decode code 1005 = .ok (.invokevirtual 130, 3) := by decide +kernel
theorem dL_law_1008 : decode code 1008 = .ok (.if_icmp .eq 507, 3) := by decide +kernel
theorem dL_law_1011 : decode code 1011 = .ok (.iconst 0, 1) := by decide +kernel
theorem dL_law_1012 : decode code 1012 = .ok (.ireturn, 1) := by decide +kernel
theorem dL_law_1013 : decode code 1013 = .ok (.aload_n 1, 1) := by decide +kernel
theorem dL_law_1014 : decode code 1014 = .ok (.aload_n 0, 1) := by decide +kernel
theorem dL_law_1015 : decode code 1015 = .ok (.iload_n 3, 1) := by decide +kernel
theorem dL_law_1016 : decode code 1016 = .ok (.iconst 1, 1) := by decide +kernel
theorem dL_law_1017 : decode code 1017 = .ok (.iadd, 1) := by decide +kernel
theorem dL_law_1018 : decode code 1018 = .ok (.iaload, 1) := by decide +kernel
theorem dL_law_1019 : decode code 1019 = .ok (.invokevirtual 131, 3) := by decide +kernel
theorem dL_law_1022 : decode code 1022 = .ok (.aload_n 2, 1) := by decide +kernel
theorem dL_law_1023 : decode code 1023 = .ok (.aload_n 0, 1) := by decide +kernel
theorem dL_law_1024 : decode code 1024 = .ok (.iload_n 3, 1) := by decide +kernel
theorem dL_law_1025 : decode code 1025 = .ok (.iconst 1, 1) := by decide +kernel
theorem dL_law_1026 : decode code 1026 = .ok (.iadd, 1) := by decide +kernel
theorem dL_law_1027 : decode code 1027 = .ok (.iaload, 1) := by decide +kernel
theorem dL_law_1028 : decode code 1028 = .ok (.invokevirtual 134, 3) := by decide +kernel
theorem dL_law_1031 : decode code 1031 = .ok (.if_icmp .eq 484, 3) := by decide +kernel
theorem dL_law_1034 : decode code 1034 = .ok (.iconst 0, 1) := by decide +kernel
theorem dL_law_1035 : decode code 1035 = .ok (.ireturn, 1) := by decide +kernel
theorem dL_law_1036 : decode code 1036 = .ok (.aload_n 1, 1) := by decide +kernel
theorem dL_law_1037 : decode code 1037 = .ok (.invokevirtual 135, 3) := by decide +kernel
theorem dL_law_1040 : decode code 1040 = .ok (.aload_n 2, 1) := by decide +kernel
theorem dL_law_1041 : decode code 1041 = .ok (.invokevirtual 138, 3) := by decide +kernel
theorem dL_law_1044 : decode code 1044 = .ok (.if_icmp .eq 471, 3) := by decide +kernel
theorem dL_law_1047 : decode code 1047 = .ok (.iconst 0, 1) := by decide +kernel
theorem dL_law_1048 : decode code 1048 = .ok (.ireturn, 1) := by decide +kernel
theorem dL_law_1049 : decode code 1049 = .ok (.aload_n 1, 1) := by decide +kernel
theorem dL_law_1050 : decode code 1050 = .ok (.aload_n 0, 1) := by decide +kernel
theorem dL_law_1051 : decode code 1051 = .ok (.iload_n 3, 1) := by decide +kernel
theorem dL_law_1052 : decode code 1052 = .ok (.iconst 1, 1) := by decide +kernel
theorem dL_law_1053 : decode code 1053 = .ok (.iadd, 1) := by decide +kernel
theorem dL_law_1054 : decode code 1054 = .ok (.iaload, 1) := by decide +kernel
theorem dL_law_1055 : decode code 1055 = .ok (.invokevirtual 139, 3) := by decide +kernel
theorem dL_law_1058 : decode code 1058 = .ok (.aload_n 2, 1) := by decide +kernel
theorem dL_law_1059 : decode code 1059 = .ok (.aload_n 0, 1) := by decide +kernel
theorem dL_law_1060 : decode code 1060 = .ok (.iload_n 3, 1) := by decide +kernel
theorem dL_law_1061 : decode code 1061 = .ok (.iconst 1, 1) := by decide +kernel
theorem dL_law_1062 : decode code 1062 = .ok (.iadd, 1) := by decide +kernel
theorem dL_law_1063 : decode code 1063 = .ok (.iaload, 1) := by decide +kernel
theorem dL_law_1064 : decode code 1064 = .ok (.invokevirtual 142, 3) := by decide +kernel
theorem dL_law_1067 : decode code 1067 = .ok (.if_icmp .eq 448, 3) := by decide +kernel
theorem dL_law_1070 : decode code 1070 = .ok (.iconst 0, 1) := by decide +kernel
theorem dL_law_1071 : decode code 1071 = .ok (.ireturn, 1) := by decide +kernel
theorem dL_law_1072 : decode code 1072 = .ok (.aload_n 1, 1) := by decide +kernel
theorem dL_law_1073 : decode code 1073 = .ok (.invokevirtual 143, 3) := by decide +kernel
theorem dL_law_1076 : decode code 1076 = .ok (.aload_n 2, 1) := by decide +kernel
theorem dL_law_1077 : decode code 1077 = .ok (.invokevirtual 146, 3) := by decide +kernel
theorem dL_law_1080 : decode code 1080 = .ok (.if_icmp .eq 435, 3) := by decide +kernel
theorem dL_law_1083 : decode code 1083 = .ok (.iconst 0, 1) := by decide +kernel
theorem dL_law_1084 : decode code 1084 = .ok (.ireturn, 1) := by decide +kernel
theorem dL_law_1085 : decode code 1085 = .ok (.aload_n 1, 1) := by decide +kernel
theorem dL_law_1086 : decode code 1086 = .ok (.aload_n 0, 1) := by decide +kernel
theorem dL_law_1087 : decode code 1087 = .ok (.iload_n 3, 1) := by decide +kernel
theorem dL_law_1088 : decode code 1088 = .ok (.iconst 1, 1) := by decide +kernel
theorem dL_law_1089 : decode code 1089 = .ok (.iadd, 1) := by decide +kernel
theorem dL_law_1090 : decode code 1090 = .ok (.iaload, 1) := by decide +kernel
theorem dL_law_1091 : decode code 1091 = .ok (.aload_n 0, 1) := by decide +kernel
theorem dL_law_1092 : decode code 1092 = .ok (.iload_n 3, 1) := by decide +kernel
theorem dL_law_1093 : decode code 1093 = .ok (.iconst 2, 1) := by decide +kernel
theorem dL_law_1094 : decode code 1094 = .ok (.iadd, 1) := by decide +kernel
theorem dL_law_1095 : decode code 1095 = .ok (.iaload, 1) := by decide +kernel
theorem dL_law_1096 : decode code 1096 = .ok (.invokevirtual 147, 3) := by decide +kernel
theorem dL_law_1099 : decode code 1099 = .ok (.aload_n 2, 1) := by decide +kernel
theorem dL_law_1100 : decode code 1100 = .ok (.aload_n 0, 1) := by decide +kernel
theorem dL_law_1101 : decode code 1101 = .ok (.iload_n 3, 1) := by decide +kernel
theorem dL_law_1102 : decode code 1102 = .ok (.iconst 1, 1) := by decide +kernel
theorem dL_law_1103 : decode code 1103 = .ok (.iadd, 1) := by decide +kernel
theorem dL_law_1104 : decode code 1104 = .ok (.iaload, 1) := by decide +kernel
theorem dL_law_1105 : decode code 1105 = .ok (.aload_n 0, 1) := by decide +kernel
theorem dL_law_1106 : decode code 1106 = .ok (.iload_n 3, 1) := by decide +kernel
theorem dL_law_1107 : decode code 1107 = .ok (.iconst 2, 1) := by decide +kernel
theorem dL_law_1108 : decode code 1108 = .ok (.iadd, 1) := by decide +kernel
theorem dL_law_1109 : decode code 1109 = .ok (.iaload, 1) := by decide +kernel
theorem dL_law_1110 : decode code 1110 = .ok (.invokevirtual 150, 3) := by decide +kernel
theorem dL_law_1113 : decode code 1113 = .ok (.if_icmp .eq 402, 3) := by decide +kernel
theorem dL_law_1116 : decode code 1116 = .ok (.iconst 0, 1) := by decide +kernel
theorem dL_law_1117 : decode code 1117 = .ok (.ireturn, 1) := by decide +kernel
theorem dL_law_1118 : decode code 1118 = .ok (.aload_n 1, 1) := by decide +kernel
theorem dL_law_1119 : decode code 1119 = .ok (.aload_n 0, 1) := by decide +kernel
theorem dL_law_1120 : decode code 1120 = .ok (.iload_n 3, 1) := by decide +kernel
theorem dL_law_1121 : decode code 1121 = .ok (.iconst 1, 1) := by decide +kernel
theorem dL_law_1122 : decode code 1122 = .ok (.iadd, 1) := by decide +kernel
theorem dL_law_1123 : decode code 1123 = .ok (.iaload, 1) := by decide +kernel
theorem dL_law_1124 : decode code 1124 = .ok (.aload_n 0, 1) := by decide +kernel
theorem dL_law_1125 : decode code 1125 = .ok (.iload_n 3, 1) := by decide +kernel
theorem dL_law_1126 : decode code 1126 = .ok (.iconst 2, 1) := by decide +kernel
theorem dL_law_1127 : decode code 1127 = .ok (.iadd, 1) := by decide +kernel
theorem dL_law_1128 : decode code 1128 = .ok (.iaload, 1) := by decide +kernel
theorem dL_law_1129 : decode code 1129 = .ok (.invokevirtual 151, 3) := by decide +kernel
theorem dL_law_1132 : decode code 1132 = .ok (.aload_n 2, 1) := by decide +kernel
theorem dL_law_1133 : decode code 1133 = .ok (.aload_n 0, 1) := by decide +kernel
theorem dL_law_1134 : decode code 1134 = .ok (.iload_n 3, 1) := by decide +kernel
theorem dL_law_1135 : decode code 1135 = .ok (.iconst 1, 1) := by decide +kernel
theorem dL_law_1136 : decode code 1136 = .ok (.iadd, 1) := by decide +kernel
theorem dL_law_1137 : decode code 1137 = .ok (.iaload, 1) := by decide +kernel
theorem dL_law_1138 : decode code 1138 = .ok (.aload_n 0, 1) := by decide +kernel
theorem dL_law_1139 : decode code 1139 = .ok (.iload_n 3, 1) := by decide +kernel
theorem dL_law_1140 : decode code 1140 = .ok (.iconst 2, 1) := by decide +kernel
theorem dL_law_1141 : decode code 1141 = .ok (.iadd, 1) := by decide +kernel
theorem dL_law_1142 : decode code 1142 = .ok (.iaload, 1) := by decide +kernel
theorem dL_law_1143 : decode code 1143 = .ok (.invokevirtual 154, 3) := by decide +kernel
theorem dL_law_1146 : decode code 1146 = .ok (.if_icmp .eq 369, 3) := by decide +kernel
theorem dL_law_1149 : decode code 1149 = .ok (.iconst 0, 1) := by decide +kernel
theorem dL_law_1150 : decode code 1150 = .ok (.ireturn, 1) := by decide +kernel
theorem dL_law_1151 : decode code 1151 = .ok (.aload_n 1, 1) := by decide +kernel
theorem dL_law_1152 : decode code 1152 = .ok (.aload_n 0, 1) := by decide +kernel
theorem dL_law_1153 : decode code 1153 = .ok (.iload_n 3, 1) := by decide +kernel
theorem dL_law_1154 : decode code 1154 = .ok (.iconst 1, 1) := by decide +kernel
theorem dL_law_1155 : decode code 1155 = .ok (.iadd, 1) := by decide +kernel
theorem dL_law_1156 : decode code 1156 = .ok (.iaload, 1) := by decide +kernel
theorem dL_law_1157 : decode code 1157 = .ok (.invokevirtual 155, 3) := by decide +kernel
theorem dL_law_1160 : decode code 1160 = .ok (.aload_n 2, 1) := by decide +kernel
theorem dL_law_1161 : decode code 1161 = .ok (.aload_n 0, 1) := by decide +kernel
theorem dL_law_1162 : decode code 1162 = .ok (.iload_n 3, 1) := by decide +kernel
theorem dL_law_1163 : decode code 1163 = .ok (.iconst 1, 1) := by decide +kernel
theorem dL_law_1164 : decode code 1164 = .ok (.iadd, 1) := by decide +kernel
theorem dL_law_1165 : decode code 1165 = .ok (.iaload, 1) := by decide +kernel
theorem dL_law_1166 : decode code 1166 = .ok (.invokevirtual 158, 3) := by decide +kernel
theorem dL_law_1169 : decode code 1169 = .ok (.if_icmp .eq 346, 3) := by decide +kernel
theorem dL_law_1172 : decode code 1172 = .ok (.iconst 0, 1) := by decide +kernel
theorem dL_law_1173 : decode code 1173 = .ok (.ireturn, 1) := by decide +kernel
theorem dL_law_1174 : decode code 1174 = .ok (.aload_n 1, 1) := by decide +kernel
theorem dL_law_1175 : decode code 1175 = .ok (.aload_n 0, 1) := by decide +kernel
theorem dL_law_1176 : decode code 1176 = .ok (.iload_n 3, 1) := by decide +kernel
theorem dL_law_1177 : decode code 1177 = .ok (.iconst 1, 1) := by decide +kernel
theorem dL_law_1178 : decode code 1178 = .ok (.iadd, 1) := by decide +kernel
theorem dL_law_1179 : decode code 1179 = .ok (.iaload, 1) := by decide +kernel
theorem dL_law_1180 : decode code 1180 = .ok (.invokevirtual 159, 3) := by decide +kernel
theorem dL_law_1183 : decode code 1183 = .ok (.aload_n 2, 1) := by decide +kernel
theorem dL_law_1184 : decode code 1184 = .ok (.aload_n 0, 1) := by decide +kernel
theorem dL_law_1185 : decode code 1185 = .ok (.iload_n 3, 1) := by decide +kernel
theorem dL_law_1186 : decode code 1186 = .ok (.iconst 1, 1) := by decide +kernel
theorem dL_law_1187 : decode code 1187 = .ok (.iadd, 1) := by decide +kernel
theorem dL_law_1188 : decode code 1188 = .ok (.iaload, 1) := by decide +kernel
theorem dL_law_1189 : decode code 1189 = .ok (.invokevirtual 162, 3) := by decide +kernel
theorem dL_law_1192 : decode code 1192 = .ok (.if_icmp .eq 323, 3) := by decide +kernel
theorem dL_law_1195 : decode code 1195 = .ok (.iconst 0, 1) := by decide +kernel
theorem dL_law_1196 : decode code 1196 = .ok (.ireturn, 1) := by decide +kernel
theorem dL_law_1197 : decode code 1197 = .ok (.aload_n 1, 1) := by decide +kernel
theorem dL_law_1198 : decode code 1198 = .ok (.aload_n 0, 1) := by decide +kernel
theorem dL_law_1199 : decode code 1199 = .ok (.iload_n 3, 1) := by decide +kernel
theorem dL_law_1200 : decode code 1200 = .ok (.iconst 1, 1) := by decide +kernel
theorem dL_law_1201 : decode code 1201 = .ok (.iadd, 1) := by decide +kernel
theorem dL_law_1202 : decode code 1202 = .ok (.iaload, 1) := by decide +kernel
theorem dL_law_1203 : decode code 1203 = .ok (.invokevirtual 163, 3) := by decide +kernel
theorem dL_law_1206 : decode code 1206 = .ok (.aload_n 2, 1) := by decide +kernel
theorem dL_law_1207 : decode code 1207 = .ok (.aload_n 0, 1) := by decide +kernel
theorem dL_law_1208 : decode code 1208 = .ok (.iload_n 3, 1) := by decide +kernel
theorem dL_law_1209 : decode code 1209 = .ok (.iconst 1, 1) := by decide +kernel
theorem dL_law_1210 : decode code 1210 = .ok (.iadd, 1) := by decide +kernel
theorem dL_law_1211 : decode code 1211 = .ok (.iaload, 1) := by decide +kernel
theorem dL_law_1212 : decode code 1212 = .ok (.invokevirtual 166, 3) := by decide +kernel
theorem dL_law_1215 : decode code 1215 = .ok (.if_icmp .eq 300, 3) := by decide +kernel
theorem dL_law_1218 : decode code 1218 = .ok (.iconst 0, 1) := by decide +kernel
theorem dL_law_1219 : decode code 1219 = .ok (.ireturn, 1) := by decide +kernel
theorem dL_law_1220 : decode code 1220 = .ok (.aload_n 1, 1) := by decide +kernel
theorem dL_law_1221 : decode code 1221 = .ok (.aload_n 0, 1) := by decide +kernel
theorem dL_law_1222 : decode code 1222 = .ok (.iload_n 3, 1) := by decide +kernel
theorem dL_law_1223 : decode code 1223 = .ok (.iconst 1, 1) := by decide +kernel
theorem dL_law_1224 : decode code 1224 = .ok (.iadd, 1) := by decide +kernel
theorem dL_law_1225 : decode code 1225 = .ok (.iaload, 1) := by decide +kernel
theorem dL_law_1226 : decode code 1226 = .ok (.aload_n 0, 1) := by decide +kernel
theorem dL_law_1227 : decode code 1227 = .ok (.iload_n 3, 1) := by decide +kernel
theorem dL_law_1228 : decode code 1228 = .ok (.iconst 2, 1) := by decide +kernel
theorem dL_law_1229 : decode code 1229 = .ok (.iadd, 1) := by decide +kernel
theorem dL_law_1230 : decode code 1230 = .ok (.iaload, 1) := by decide +kernel
theorem dL_law_1231 : decode code 1231 = .ok (.aload_n 0, 1) := by decide +kernel
theorem dL_law_1232 : decode code 1232 = .ok (.iload_n 3, 1) := by decide +kernel
theorem dL_law_1233 : decode code 1233 = .ok (.iconst 3, 1) := by decide +kernel
theorem dL_law_1234 : decode code 1234 = .ok (.iadd, 1) := by decide +kernel
theorem dL_law_1235 : decode code 1235 = .ok (.iaload, 1) := by decide +kernel
theorem dL_law_1236 : decode code 1236 = .ok (.invokevirtual 167, 3) := by decide +kernel
theorem dL_law_1239 : decode code 1239 = .ok (.aload_n 2, 1) := by decide +kernel
theorem dL_law_1240 : decode code 1240 = .ok (.aload_n 0, 1) := by decide +kernel
theorem dL_law_1241 : decode code 1241 = .ok (.iload_n 3, 1) := by decide +kernel
theorem dL_law_1242 : decode code 1242 = .ok (.iconst 1, 1) := by decide +kernel
theorem dL_law_1243 : decode code 1243 = .ok (.iadd, 1) := by decide +kernel
theorem dL_law_1244 : decode code 1244 = .ok (.iaload, 1) := by decide +kernel
theorem dL_law_1245 : decode code 1245 = .ok (.aload_n 0, 1) := by decide +kernel
theorem dL_law_1246 : decode code 1246 = .ok (.iload_n 3, 1) := by decide +kernel
theorem dL_law_1247 : decode code 1247 = .ok (.iconst 2, 1) := by decide +kernel
theorem dL_law_1248 : decode code 1248 = .ok (.iadd, 1) := by decide +kernel
theorem dL_law_1249 : decode code 1249 = .ok (.iaload, 1) := by decide +kernel
theorem dL_law_1250 : decode code 1250 = .ok (.aload_n 0, 1) := by decide +kernel
theorem dL_law_1251 : decode code 1251 = .ok (.iload_n 3, 1) := by decide +kernel
theorem dL_law_1252 : decode code 1252 = .ok (.iconst 3, 1) := by decide +kernel
theorem dL_law_1253 : decode code 1253 = .ok (.iadd, 1) := by decide +kernel
theorem dL_law_1254 : decode code 1254 = .ok (.iaload, 1) := by decide +kernel
theorem dL_law_1255 : decode code 1255 = .ok (.invokevirtual 170, 3) := by decide +kernel
theorem dL_law_1258 : decode code 1258 = .ok (.if_icmp .eq 257, 3) := by decide +kernel
theorem dL_law_1261 : decode code 1261 = .ok (.iconst 0, 1) := by decide +kernel
theorem dL_law_1262 : decode code 1262 = .ok (.ireturn, 1) := by decide +kernel
theorem dL_law_1263 : decode code 1263 = .ok (.aload_n 1, 1) := by decide +kernel
theorem dL_law_1264 : decode code 1264 = .ok (.aload_n 0, 1) := by decide +kernel
theorem dL_law_1265 : decode code 1265 = .ok (.iload_n 3, 1) := by decide +kernel
theorem dL_law_1266 : decode code 1266 = .ok (.iconst 1, 1) := by decide +kernel
theorem dL_law_1267 : decode code 1267 = .ok (.iadd, 1) := by decide +kernel
theorem dL_law_1268 : decode code 1268 = .ok (.iaload, 1) := by decide +kernel
theorem dL_law_1269 : decode code 1269 = .ok (.aload_n 0, 1) := by decide +kernel
theorem dL_law_1270 : decode code 1270 = .ok (.iload_n 3, 1) := by decide +kernel
theorem dL_law_1271 : decode code 1271 = .ok (.iconst 2, 1) := by decide +kernel
theorem dL_law_1272 : decode code 1272 = .ok (.iadd, 1) := by decide +kernel
theorem dL_law_1273 : decode code 1273 = .ok (.iaload, 1) := by decide +kernel
theorem dL_law_1274 : decode code 1274 = .ok (.invokevirtual 171, 3) := by decide +kernel
theorem dL_law_1277 : decode code 1277 = .ok (.aload_n 2, 1) := by decide +kernel
theorem dL_law_1278 : decode code 1278 = .ok (.aload_n 0, 1) := by decide +kernel
theorem dL_law_1279 : decode code 1279 = .ok (.iload_n 3, 1) := by decide +kernel
theorem dL_law_1280 : decode code 1280 = .ok (.iconst 1, 1) := by decide +kernel
theorem dL_law_1281 : decode code 1281 = .ok (.iadd, 1) := by decide +kernel
theorem dL_law_1282 : decode code 1282 = .ok (.iaload, 1) := by decide +kernel
theorem dL_law_1283 : decode code 1283 = .ok (.aload_n 0, 1) := by decide +kernel
theorem dL_law_1284 : decode code 1284 = .ok (.iload_n 3, 1) := by decide +kernel
theorem dL_law_1285 : decode code 1285 = .ok (.iconst 2, 1) := by decide +kernel
theorem dL_law_1286 : decode code 1286 = .ok (.iadd, 1) := by decide +kernel
theorem dL_law_1287 : decode code 1287 = .ok (.iaload, 1) := by decide +kernel
theorem dL_law_1288 : decode code 1288 = .ok (.invokevirtual 174, 3) := by decide +kernel
theorem dL_law_1291 : decode code 1291 = .ok (.if_icmp .eq 224, 3) := by decide +kernel
theorem dL_law_1294 : decode code 1294 = .ok (.iconst 0, 1) := by decide +kernel
theorem dL_law_1295 : decode code 1295 = .ok (.ireturn, 1) := by decide +kernel
theorem dL_law_1296 : decode code 1296 = .ok (.aload_n 1, 1) := by decide +kernel
theorem dL_law_1297 : decode code 1297 = .ok (.aload_n 0, 1) := by decide +kernel
theorem dL_law_1298 : decode code 1298 = .ok (.iload_n 3, 1) := by decide +kernel
theorem dL_law_1299 : decode code 1299 = .ok (.iconst 1, 1) := by decide +kernel
theorem dL_law_1300 : decode code 1300 = .ok (.iadd, 1) := by decide +kernel
theorem dL_law_1301 : decode code 1301 = .ok (.iaload, 1) := by decide +kernel
theorem dL_law_1302 : decode code 1302 = .ok (.aload_n 0, 1) := by decide +kernel
theorem dL_law_1303 : decode code 1303 = .ok (.iload_n 3, 1) := by decide +kernel
theorem dL_law_1304 : decode code 1304 = .ok (.iconst 2, 1) := by decide +kernel
theorem dL_law_1305 : decode code 1305 = .ok (.iadd, 1) := by decide +kernel
theorem dL_law_1306 : decode code 1306 = .ok (.iaload, 1) := by decide +kernel
theorem dL_law_1307 : decode code 1307 = .ok (.aload_n 0, 1) := by decide +kernel
theorem dL_law_1308 : decode code 1308 = .ok (.iload_n 3, 1) := by decide +kernel
theorem dL_law_1309 : decode code 1309 = .ok (.iconst 3, 1) := by decide +kernel
theorem dL_law_1310 : decode code 1310 = .ok (.iadd, 1) := by decide +kernel
theorem dL_law_1311 : decode code 1311 = .ok (.iaload, 1) := by decide +kernel
theorem dL_law_1312 : decode code 1312 = .ok (.invokevirtual 175, 3) := by decide +kernel
theorem dL_law_1315 : decode code 1315 = .ok (.aload_n 2, 1) := by decide +kernel
theorem dL_law_1316 : decode code 1316 = .ok (.aload_n 0, 1) := by decide +kernel
theorem dL_law_1317 : decode code 1317 = .ok (.iload_n 3, 1) := by decide +kernel
theorem dL_law_1318 : decode code 1318 = .ok (.iconst 1, 1) := by decide +kernel
theorem dL_law_1319 : decode code 1319 = .ok (.iadd, 1) := by decide +kernel
theorem dL_law_1320 : decode code 1320 = .ok (.iaload, 1) := by decide +kernel
theorem dL_law_1321 : decode code 1321 = .ok (.aload_n 0, 1) := by decide +kernel
theorem dL_law_1322 : decode code 1322 = .ok (.iload_n 3, 1) := by decide +kernel
theorem dL_law_1323 : decode code 1323 = .ok (.iconst 2, 1) := by decide +kernel
theorem dL_law_1324 : decode code 1324 = .ok (.iadd, 1) := by decide +kernel
theorem dL_law_1325 : decode code 1325 = .ok (.iaload, 1) := by decide +kernel
theorem dL_law_1326 : decode code 1326 = .ok (.aload_n 0, 1) := by decide +kernel
theorem dL_law_1327 : decode code 1327 = .ok (.iload_n 3, 1) := by decide +kernel
theorem dL_law_1328 : decode code 1328 = .ok (.iconst 3, 1) := by decide +kernel
theorem dL_law_1329 : decode code 1329 = .ok (.iadd, 1) := by decide +kernel
theorem dL_law_1330 : decode code 1330 = .ok (.iaload, 1) := by decide +kernel
theorem dL_law_1331 : decode code 1331 = .ok (.invokevirtual 178, 3) := by decide +kernel
theorem dL_law_1334 : decode code 1334 = .ok (.if_icmp .eq 181, 3) := by decide +kernel
theorem dL_law_1337 : decode code 1337 = .ok (.iconst 0, 1) := by decide +kernel
theorem dL_law_1338 : decode code 1338 = .ok (.ireturn, 1) := by decide +kernel
theorem dL_law_1339 : decode code 1339 = .ok (.aload_n 1, 1) := by decide +kernel
theorem dL_law_1340 : decode code 1340 = .ok (.aload_n 0, 1) := by decide +kernel
theorem dL_law_1341 : decode code 1341 = .ok (.iload_n 3, 1) := by decide +kernel
theorem dL_law_1342 : decode code 1342 = .ok (.iconst 1, 1) := by decide +kernel
theorem dL_law_1343 : decode code 1343 = .ok (.iadd, 1) := by decide +kernel
theorem dL_law_1344 : decode code 1344 = .ok (.iaload, 1) := by decide +kernel
theorem dL_law_1345 : decode code 1345 = .ok (.aload_n 0, 1) := by decide +kernel
theorem dL_law_1346 : decode code 1346 = .ok (.iload_n 3, 1) := by decide +kernel
theorem dL_law_1347 : decode code 1347 = .ok (.iconst 2, 1) := by decide +kernel
theorem dL_law_1348 : decode code 1348 = .ok (.iadd, 1) := by decide +kernel
theorem dL_law_1349 : decode code 1349 = .ok (.iaload, 1) := by decide +kernel
theorem dL_law_1350 : decode code 1350 = .ok (.aload_n 0, 1) := by decide +kernel
theorem dL_law_1351 : decode code 1351 = .ok (.iload_n 3, 1) := by decide +kernel
theorem dL_law_1352 : decode code 1352 = .ok (.iconst 3, 1) := by decide +kernel
theorem dL_law_1353 : decode code 1353 = .ok (.iadd, 1) := by decide +kernel
theorem dL_law_1354 : decode code 1354 = .ok (.iaload, 1) := by decide +kernel
theorem dL_law_1355 : decode code 1355 = .ok (.i2l, 1) := by decide +kernel
theorem dL_law_1356 : decode code 1356 = .ok (.bipush 32, 2) := by decide +kernel
theorem dL_law_1358 : decode code 1358 = .ok (.lshl, 1) := by decide +kernel
theorem dL_law_1359 : decode code 1359 = .ok (.aload_n 0, 1) := by decide +kernel
theorem dL_law_1360 : decode code 1360 = .ok (.iload_n 3, 1) := by decide +kernel
theorem dL_law_1361 : decode code 1361 = .ok (.iconst 4, 1) := by decide +kernel
theorem dL_law_1362 : decode code 1362 = .ok (.iadd, 1) := by decide +kernel
theorem dL_law_1363 : decode code 1363 = .ok (.iaload, 1) := by decide +kernel
theorem dL_law_1364 : decode code 1364 = .ok (.i2l, 1) := by decide +kernel
theorem dL_law_1365 : decode code 1365 = .ok (.ldc2_w 179, 3) := by decide +kernel
theorem dL_law_1368 : decode code 1368 = .ok (.land, 1) := by decide +kernel
theorem dL_law_1369 : decode code 1369 = .ok (.lor, 1) := by decide +kernel
theorem dL_law_1370 : decode code 1370 = .ok (.invokevirtual 181, 3) := by decide +kernel
theorem dL_law_1373 : decode code 1373 = .ok (.aload_n 2, 1) := by decide +kernel
theorem dL_law_1374 : decode code 1374 = .ok (.aload_n 0, 1) := by decide +kernel
theorem dL_law_1375 : decode code 1375 = .ok (.iload_n 3, 1) := by decide +kernel
theorem dL_law_1376 : decode code 1376 = .ok (.iconst 1, 1) := by decide +kernel
theorem dL_law_1377 : decode code 1377 = .ok (.iadd, 1) := by decide +kernel
theorem dL_law_1378 : decode code 1378 = .ok (.iaload, 1) := by decide +kernel
theorem dL_law_1379 : decode code 1379 = .ok (.aload_n 0, 1) := by decide +kernel
theorem dL_law_1380 : decode code 1380 = .ok (.iload_n 3, 1) := by decide +kernel
theorem dL_law_1381 : decode code 1381 = .ok (.iconst 2, 1) := by decide +kernel
theorem dL_law_1382 : decode code 1382 = .ok (.iadd, 1) := by decide +kernel
theorem dL_law_1383 : decode code 1383 = .ok (.iaload, 1) := by decide +kernel
theorem dL_law_1384 : decode code 1384 = .ok (.aload_n 0, 1) := by decide +kernel
theorem dL_law_1385 : decode code 1385 = .ok (.iload_n 3, 1) := by decide +kernel
theorem dL_law_1386 : decode code 1386 = .ok (.iconst 3, 1) := by decide +kernel
theorem dL_law_1387 : decode code 1387 = .ok (.iadd, 1) := by decide +kernel
theorem dL_law_1388 : decode code 1388 = .ok (.iaload, 1) := by decide +kernel
theorem dL_law_1389 : decode code 1389 = .ok (.i2l, 1) := by decide +kernel
theorem dL_law_1390 : decode code 1390 = .ok (.bipush 32, 2) := by decide +kernel
theorem dL_law_1392 : decode code 1392 = .ok (.lshl, 1) := by decide +kernel
theorem dL_law_1393 : decode code 1393 = .ok (.aload_n 0, 1) := by decide +kernel
theorem dL_law_1394 : decode code 1394 = .ok (.iload_n 3, 1) := by decide +kernel
theorem dL_law_1395 : decode code 1395 = .ok (.iconst 4, 1) := by decide +kernel
theorem dL_law_1396 : decode code 1396 = .ok (.iadd, 1) := by decide +kernel
theorem dL_law_1397 : decode code 1397 = .ok (.iaload, 1) := by decide +kernel
theorem dL_law_1398 : decode code 1398 = .ok (.i2l, 1) := by decide +kernel
theorem dL_law_1399 : decode code 1399 = .ok (.ldc2_w 179, 3) := by decide +kernel
theorem dL_law_1402 : decode code 1402 = .ok (.land, 1) := by decide +kernel
theorem dL_law_1403 : decode code 1403 = .ok (.lor, 1) := by decide +kernel
theorem dL_law_1404 : decode code 1404 = .ok (.invokevirtual 185, 3) := by decide +kernel
theorem dL_law_1407 : decode code 1407 = .ok (.lcmp, 1) := by decide +kernel
theorem dL_law_1408 : decode code 1408 = .ok (.ifCond .eq 107, 3) := by decide +kernel
theorem dL_law_1411 : decode code 1411 = .ok (.iconst 0, 1) := by decide +kernel
theorem dL_law_1412 : decode code 1412 = .ok (.ireturn, 1) := by decide +kernel
theorem dL_law_1413 : decode code 1413 = .ok (.aload_n 1, 1) := by decide +kernel
theorem dL_law_1414 : decode code 1414 = .ok (.aload_n 0, 1) := by decide +kernel
theorem dL_law_1415 : decode code 1415 = .ok (.iload_n 3, 1) := by decide +kernel
theorem dL_law_1416 : decode code 1416 = .ok (.iconst 1, 1) := by decide +kernel
theorem dL_law_1417 : decode code 1417 = .ok (.iadd, 1) := by decide +kernel
theorem dL_law_1418 : decode code 1418 = .ok (.iaload, 1) := by decide +kernel
theorem dL_law_1419 : decode code 1419 = .ok (.aload_n 0, 1) := by decide +kernel
theorem dL_law_1420 : decode code 1420 = .ok (.iload_n 3, 1) := by decide +kernel
theorem dL_law_1421 : decode code 1421 = .ok (.iconst 2, 1) := by decide +kernel
theorem dL_law_1422 : decode code 1422 = .ok (.iadd, 1) := by decide +kernel
theorem dL_law_1423 : decode code 1423 = .ok (.iaload, 1) := by decide +kernel
theorem dL_law_1424 : decode code 1424 = .ok (.invokevirtual 186, 3) := by decide +kernel
theorem dL_law_1427 : decode code 1427 = .ok (.aload_n 2, 1) := by decide +kernel
theorem dL_law_1428 : decode code 1428 = .ok (.aload_n 0, 1) := by decide +kernel
theorem dL_law_1429 : decode code 1429 = .ok (.iload_n 3, 1) := by decide +kernel
theorem dL_law_1430 : decode code 1430 = .ok (.iconst 1, 1) := by decide +kernel
theorem dL_law_1431 : decode code 1431 = .ok (.iadd, 1) := by decide +kernel
theorem dL_law_1432 : decode code 1432 = .ok (.iaload, 1) := by decide +kernel
theorem dL_law_1433 : decode code 1433 = .ok (.aload_n 0, 1) := by decide +kernel
theorem dL_law_1434 : decode code 1434 = .ok (.iload_n 3, 1) := by decide +kernel
theorem dL_law_1435 : decode code 1435 = .ok (.iconst 2, 1) := by decide +kernel
theorem dL_law_1436 : decode code 1436 = .ok (.iadd, 1) := by decide +kernel
theorem dL_law_1437 : decode code 1437 = .ok (.iaload, 1) := by decide +kernel
theorem dL_law_1438 : decode code 1438 = .ok (.invokevirtual 189, 3) := by decide +kernel
theorem dL_law_1441 : decode code 1441 = .ok (.if_icmp .eq 74, 3) := by decide +kernel
theorem dL_law_1444 : decode code 1444 = .ok (.iconst 0, 1) := by decide +kernel
theorem dL_law_1445 : decode code 1445 = .ok (.ireturn, 1) := by decide +kernel
theorem dL_law_1446 : decode code 1446 = .ok (.aload_n 1, 1) := by decide +kernel
theorem dL_law_1447 : decode code 1447 = .ok (.aload_n 0, 1) := by decide +kernel
theorem dL_law_1448 : decode code 1448 = .ok (.iload_n 3, 1) := by decide +kernel
theorem dL_law_1449 : decode code 1449 = .ok (.iconst 1, 1) := by decide +kernel
theorem dL_law_1450 : decode code 1450 = .ok (.iadd, 1) := by decide +kernel
theorem dL_law_1451 : decode code 1451 = .ok (.iaload, 1) := by decide +kernel
theorem dL_law_1452 : decode code 1452 = .ok (.invokevirtual 190, 3) := by decide +kernel
theorem dL_law_1455 : decode code 1455 = .ok (.aload_n 2, 1) := by decide +kernel
theorem dL_law_1456 : decode code 1456 = .ok (.aload_n 0, 1) := by decide +kernel
theorem dL_law_1457 : decode code 1457 = .ok (.iload_n 3, 1) := by decide +kernel
theorem dL_law_1458 : decode code 1458 = .ok (.iconst 1, 1) := by decide +kernel
theorem dL_law_1459 : decode code 1459 = .ok (.iadd, 1) := by decide +kernel
theorem dL_law_1460 : decode code 1460 = .ok (.iaload, 1) := by decide +kernel
theorem dL_law_1461 : decode code 1461 = .ok (.invokevirtual 193, 3) := by decide +kernel
theorem dL_law_1464 : decode code 1464 = .ok (.if_icmp .eq 51, 3) := by decide +kernel
theorem dL_law_1467 : decode code 1467 = .ok (.iconst 0, 1) := by decide +kernel
theorem dL_law_1468 : decode code 1468 = .ok (.ireturn, 1) := by decide +kernel
theorem dL_law_1469 : decode code 1469 = .ok (.aload_n 1, 1) := by decide +kernel
theorem dL_law_1470 : decode code 1470 = .ok (.aload_n 0, 1) := by decide +kernel
theorem dL_law_1471 : decode code 1471 = .ok (.iload_n 3, 1) := by decide +kernel
theorem dL_law_1472 : decode code 1472 = .ok (.iconst 1, 1) := by decide +kernel
theorem dL_law_1473 : decode code 1473 = .ok (.iadd, 1) := by decide +kernel
theorem dL_law_1474 : decode code 1474 = .ok (.iaload, 1) := by decide +kernel
theorem dL_law_1475 : decode code 1475 = .ok (.invokevirtual 194, 3) := by decide +kernel
theorem dL_law_1478 : decode code 1478 = .ok (.aload_n 2, 1) := by decide +kernel
theorem dL_law_1479 : decode code 1479 = .ok (.aload_n 0, 1) := by decide +kernel
theorem dL_law_1480 : decode code 1480 = .ok (.iload_n 3, 1) := by decide +kernel
theorem dL_law_1481 : decode code 1481 = .ok (.iconst 1, 1) := by decide +kernel
theorem dL_law_1482 : decode code 1482 = .ok (.iadd, 1) := by decide +kernel
theorem dL_law_1483 : decode code 1483 = .ok (.iaload, 1) := by decide +kernel
theorem dL_law_1484 : decode code 1484 = .ok (.invokevirtual 197, 3) := by decide +kernel
theorem dL_law_1487 : decode code 1487 = .ok (.if_icmp .eq 28, 3) := by decide +kernel
theorem dL_law_1490 : decode code 1490 = .ok (.iconst 0, 1) := by decide +kernel
theorem dL_law_1491 : decode code 1491 = .ok (.ireturn, 1) := by decide +kernel
theorem dL_law_1492 : decode code 1492 = .ok (.aload_n 1, 1) := by decide +kernel
theorem dL_law_1493 : decode code 1493 = .ok (.aload_n 0, 1) := by decide +kernel
theorem dL_law_1494 : decode code 1494 = .ok (.iload_n 3, 1) := by decide +kernel
theorem dL_law_1495 : decode code 1495 = .ok (.iconst 1, 1) := by decide +kernel
theorem dL_law_1496 : decode code 1496 = .ok (.iadd, 1) := by decide +kernel
theorem dL_law_1497 : decode code 1497 = .ok (.iaload, 1) := by decide +kernel
theorem dL_law_1498 : decode code 1498 = .ok (.invokevirtual 198, 3) := by decide +kernel
theorem dL_law_1501 : decode code 1501 = .ok (.aload_n 2, 1) := by decide +kernel
theorem dL_law_1502 : decode code 1502 = .ok (.aload_n 0, 1) := by decide +kernel
theorem dL_law_1503 : decode code 1503 = .ok (.iload_n 3, 1) := by decide +kernel
theorem dL_law_1504 : decode code 1504 = .ok (.iconst 1, 1) := by decide +kernel
theorem dL_law_1505 : decode code 1505 = .ok (.iadd, 1) := by decide +kernel
theorem dL_law_1506 : decode code 1506 = .ok (.iaload, 1) := by decide +kernel
theorem dL_law_1507 : decode code 1507 = .ok (.invokevirtual 201, 3) := by decide +kernel
theorem dL_law_1510 : decode code 1510 = .ok (.if_icmp .eq 5, 3) := by decide +kernel
theorem dL_law_1513 : decode code 1513 = .ok (.iconst 0, 1) := by decide +kernel
theorem dL_law_1514 : decode code 1514 = .ok (.ireturn, 1) := by decide +kernel
theorem dL_law_1515 : decode code 1515 = .ok (.iinc 3 6, 3) := by decide +kernel
theorem dL_law_1518 : decode code 1518 = .ok (.goto (-1500), 3) := by decide +kernel
theorem dL_law_1521 : decode code 1521 = .ok (.iconst 1, 1) := by decide +kernel
theorem dL_law_1522 : decode code 1522 = .ok (.ireturn, 1) := by decide +kernel
