theorem dL_law_0 : decode cL_law 0 = .ok (.new 7, 3) := by decide +kernel
theorem dL_law_3 : decode cL_law 3 = .ok (.dup, 1) := by decide +kernel
theorem dL_law_4 : decode cL_law 4 = .ok (.invokespecial 9, 3) := by decide +kernel
theorem dL_law_7 : decode cL_law 7 = .ok (.astore_n 1, 1) := by decide +kernel
theorem dL_law_8 : decode cL_law 8 = .ok (.new 10, 3) := by decide +kernel
theorem dL_law_11 : decode cL_law 11 = .ok (.dup, 1) := by decide +kernel
theorem dL_law_12 : decode cL_law 12 = .ok (.invokespecial 12, 3) := by decide +kernel
theorem dL_law_15 : decode cL_law 15 = .ok (.astore_n 2, 1) := by decide +kernel
theorem dL_law_16 : decode cL_law 16 = .ok (.iconst 0, 1) := by decide +kernel
theorem dL_law_17 : decode cL_law 17 = .ok (.istore_n 3, 1) := by decide +kernel
theorem dL_law_18 : decode cL_law 18 = .ok (.iload_n 3, 1) := by decide +kernel
theorem dL_law_19 : decode cL_law 19 = .ok (.aload_n 0, 1) := by decide +kernel
theorem dL_law_20 : decode cL_law 20 = .ok (.arraylength, 1) := by decide +kernel
theorem dL_law_21 : decode cL_law 21 = .ok (.iconst 5, 1) := by decide +kernel
theorem dL_law_22 : decode cL_law 22 = .ok (.isub, 1) := by decide +kernel
theorem dL_law_23 : decode cL_law 23 = .ok (.if_icmp .gt 1425, 3) := by decide +kernel
theorem dL_law_26 : decode cL_law 26 = .ok (.aload_n 0, 1) := by decide +kernel
theorem dL_law_27 : decode cL_law 27 = .ok (.iload_n 3, 1) := by decide +kernel
theorem dL_law_28 : decode cL_law 28 = .ok (.iaload, 1) := by decide +kernel
theorem dL_law_29 : decode cL_law 29 = .ok (.bipush 63, 2) := by decide +kernel
theorem dL_law_31 : decode cL_law 31 = .ok (.iand, 1) := by decide +kernel
theorem dL_law_32 : decode cL_law 32 = .ok (.tableswitch 1410 0 45 #[200, 223, 236, 269, 312, 335, 358, 381, 404, 427, 440, 483, 516, 539, 562, 585, 608, 631, 654, 677, 710, 743, 766, 789, 812, 845, 878, 932, 965, 988, 1001, 1034, 1057, 1090, 1123, 1146, 1169, 1212, 1236, 1259, 1282, 1305, 1318, 1361, 1374, 1387], 200) := by decide +kernel
theorem dL_law_232 : decode cL_law 232 = .ok (.aload_n 1, 1) := by decide +kernel
theorem dL_law_233 : decode cL_law 233 = .ok (.aload_n 0, 1) := by decide +kernel
theorem dL_law_234 : decode cL_law 234 = .ok (.iload_n 3, 1) := by decide +kernel
theorem dL_law_235 : decode cL_law 235 = .ok (.iconst 1, 1) := by decide +kernel
theorem dL_law_236 : decode cL_law 236 = .ok (.iadd, 1) := by decide +kernel
theorem dL_law_237 : decode cL_law 237 = .ok (.iaload, 1) := by decide +kernel
theorem dL_law_238 : decode cL_law 238 = .ok (.invokevirtual 13, 3) := by decide +kernel
theorem dL_law_241 : decode cL_law 241 = .ok (.aload_n 2, 1) := by decide +kernel
theorem dL_law_242 : decode cL_law 242 = .ok (.aload_n 0, 1) := by decide +kernel
theorem dL_law_243 : decode cL_law 243 = .ok (.iload_n 3, 1) := by decide +kernel
theorem dL_law_244 : decode cL_law 244 = .ok (.iconst 1, 1) := by decide +kernel
theorem dL_law_245 : decode cL_law 245 = .ok (.iadd, 1) := by decide +kernel
theorem dL_law_246 : decode cL_law 246 = .ok (.iaload, 1) := by decide +kernel
theorem dL_law_247 : decode cL_law 247 = .ok (.invokevirtual 17, 3) := by decide +kernel
theorem dL_law_250 : decode cL_law 250 = .ok (.if_icmp .eq 1192, 3) := by decide +kernel
theorem dL_law_253 : decode cL_law 253 = .ok (.iconst 0, 1) := by decide +kernel
theorem dL_law_254 : decode cL_law 254 = .ok (.ireturn, 1) := by decide +kernel
theorem dL_law_255 : decode cL_law 255 = .ok (.aload_n 1, 1) := by decide +kernel
theorem dL_law_256 : decode cL_law 256 = .ok (.invokevirtual 18, 3) := by decide +kernel
theorem dL_law_259 : decode cL_law 259 = .ok (.aload_n 2, 1) := by decide +kernel
theorem dL_law_260 : decode cL_law 260 = .ok (.invokevirtual 22, 3) := by decide +kernel
theorem dL_law_263 : decode cL_law 263 = .ok (.if_icmp .eq 1179, 3) := by decide +kernel
theorem dL_law_266 : decode cL_law 266 = .ok (.iconst 0, 1) := by decide +kernel
theorem dL_law_267 : decode cL_law 267 = .ok (.ireturn, 1) := by decide +kernel
theorem dL_law_268 : decode cL_law 268 = .ok (.aload_n 1, 1) := by decide +kernel
theorem dL_law_269 : decode cL_law 269 = .ok (.aload_n 0, 1) := by decide +kernel
theorem dL_law_270 : decode cL_law 270 = .ok (.iload_n 3, 1) := by decide +kernel
theorem dL_law_271 : decode cL_law 271 = .ok (.iconst 1, 1) := by decide +kernel
theorem dL_law_272 : decode cL_law 272 = .ok (.iadd, 1) := by decide +kernel
theorem dL_law_273 : decode cL_law 273 = .ok (.iaload, 1) := by decide +kernel
theorem dL_law_274 : decode cL_law 274 = .ok (.aload_n 0, 1) := by decide +kernel
theorem dL_law_275 : decode cL_law 275 = .ok (.iload_n 3, 1) := by decide +kernel
theorem dL_law_276 : decode cL_law 276 = .ok (.iconst 2, 1) := by decide +kernel
theorem dL_law_277 : decode cL_law 277 = .ok (.iadd, 1) := by decide +kernel
theorem dL_law_278 : decode cL_law 278 = .ok (.iaload, 1) := by decide +kernel
theorem dL_law_279 : decode cL_law 279 = .ok (.invokevirtual 23, 3) := by decide +kernel
theorem dL_law_282 : decode cL_law 282 = .ok (.aload_n 2, 1) := by decide +kernel
theorem dL_law_283 : decode cL_law 283 = .ok (.aload_n 0, 1) := by decide +kernel
theorem dL_law_284 : decode cL_law 284 = .ok (.iload_n 3, 1) := by decide +kernel
theorem dL_law_285 : decode cL_law 285 = .ok (.iconst 1, 1) := by decide +kernel
theorem dL_law_286 : decode cL_law 286 = .ok (.iadd, 1) := by decide +kernel
theorem dL_law_287 : decode cL_law 287 = .ok (.iaload, 1) := by decide +kernel
theorem dL_law_288 : decode cL_law 288 = .ok (.aload_n 0, 1) := by decide +kernel
theorem dL_law_289 : decode cL_law 289 = .ok (.iload_n 3, 1) := by decide +kernel
theorem dL_law_290 : decode cL_law 290 = .ok (.iconst 2, 1) := by decide +kernel
theorem dL_law_291 : decode cL_law 291 = .ok (.iadd, 1) := by decide +kernel
theorem dL_law_292 : decode cL_law 292 = .ok (.iaload, 1) := by decide +kernel
theorem dL_law_293 : decode cL_law 293 = .ok (.invokevirtual 27, 3) := by decide +kernel
theorem dL_law_296 : decode cL_law 296 = .ok (.if_icmp .eq 1146, 3) := by decide +kernel
theorem dL_law_299 : decode cL_law 299 = .ok (.iconst 0, 1) := by decide +kernel
theorem dL_law_300 : decode cL_law 300 = .ok (.ireturn, 1) := by decide +kernel
theorem dL_law_301 : decode cL_law 301 = .ok (.aload_n 1, 1) := by decide +kernel
theorem dL_law_302 : decode cL_law 302 = .ok (.aload_n 0, 1) := by decide +kernel
theorem dL_law_303 : decode cL_law 303 = .ok (.iload_n 3, 1) := by decide +kernel
theorem dL_law_304 : decode cL_law 304 = .ok (.iconst 1, 1) := by decide +kernel
theorem dL_law_305 : decode cL_law 305 = .ok (.iadd, 1) := by decide +kernel
theorem dL_law_306 : decode cL_law 306 = .ok (.iaload, 1) := by decide +kernel
theorem dL_law_307 : decode cL_law 307 = .ok (.aload_n 0, 1) := by decide +kernel
theorem dL_law_308 : decode cL_law 308 = .ok (.iload_n 3, 1) := by decide +kernel
theorem dL_law_309 : decode cL_law 309 = .ok (.iconst 2, 1) := by decide +kernel
theorem dL_law_310 : decode cL_law 310 = .ok (.iadd, 1) := by decide +kernel
theorem dL_law_311 : decode cL_law 311 = .ok (.iaload, 1) := by decide +kernel
theorem dL_law_312 : decode cL_law 312 = .ok (.aload_n 0, 1) := by decide +kernel
theorem dL_law_313 : decode cL_law 313 = .ok (.iload_n 3, 1) := by decide +kernel
theorem dL_law_314 : decode cL_law 314 = .ok (.iconst 3, 1) := by decide +kernel
theorem dL_law_315 : decode cL_law 315 = .ok (.iadd, 1) := by decide +kernel
theorem dL_law_316 : decode cL_law 316 = .ok (.iaload, 1) := by decide +kernel
theorem dL_law_317 : decode cL_law 317 = .ok (.invokevirtual 28, 3) := by decide +kernel
theorem dL_law_320 : decode cL_law 320 = .ok (.aload_n 2, 1) := by decide +kernel
theorem dL_law_321 : decode cL_law 321 = .ok (.aload_n 0, 1) := by decide +kernel
theorem dL_law_322 : decode cL_law 322 = .ok (.iload_n 3, 1) := by decide +kernel
theorem dL_law_323 : decode cL_law 323 = .ok (.iconst 1, 1) := by decide +kernel
theorem dL_law_324 : decode cL_law 324 = .ok (.iadd, 1) := by decide +kernel
theorem dL_law_325 : decode cL_law 325 = .ok (.iaload, 1) := by decide +kernel
theorem dL_law_326 : decode cL_law 326 = .ok (.aload_n 0, 1) := by decide +kernel
theorem dL_law_327 : decode cL_law 327 = .ok (.iload_n 3, 1) := by decide +kernel
theorem dL_law_328 : decode cL_law 328 = .ok (.iconst 2, 1) := by decide +kernel
theorem dL_law_329 : decode cL_law 329 = .ok (.iadd, 1) := by decide +kernel
theorem dL_law_330 : decode cL_law 330 = .ok (.iaload, 1) := by decide +kernel
theorem dL_law_331 : decode cL_law 331 = .ok (.aload_n 0, 1) := by decide +kernel
theorem dL_law_332 : decode cL_law 332 = .ok (.iload_n 3, 1) := by decide +kernel
theorem dL_law_333 : decode cL_law 333 = .ok (.iconst 3, 1) := by decide +kernel
theorem dL_law_334 : decode cL_law 334 = .ok (.iadd, 1) := by decide +kernel
theorem dL_law_335 : decode cL_law 335 = .ok (.iaload, 1) := by decide +kernel
theorem dL_law_336 : decode cL_law 336 = .ok (.invokevirtual 32, 3) := by decide +kernel
theorem dL_law_339 : decode cL_law 339 = .ok (.if_icmp .eq 1103, 3) := by decide +kernel
theorem dL_law_342 : decode cL_law 342 = .ok (.iconst 0, 1) := by decide +kernel
theorem dL_law_343 : decode cL_law 343 = .ok (.ireturn, 1) := by decide +kernel
theorem dL_law_344 : decode cL_law 344 = .ok (.aload_n 1, 1) := by decide +kernel
theorem dL_law_345 : decode cL_law 345 = .ok (.aload_n 0, 1) := by decide +kernel
theorem dL_law_346 : decode cL_law 346 = .ok (.iload_n 3, 1) := by decide +kernel
theorem dL_law_347 : decode cL_law 347 = .ok (.iconst 1, 1) := by decide +kernel
theorem dL_law_348 : decode cL_law 348 = .ok (.iadd, 1) := by decide +kernel
theorem dL_law_349 : decode cL_law 349 = .ok (.iaload, 1) := by decide +kernel
theorem dL_law_350 : decode cL_law 350 = .ok (.invokevirtual 33, 3) := by decide +kernel
theorem dL_law_353 : decode cL_law 353 = .ok (.aload_n 2, 1) := by decide +kernel
theorem dL_law_354 : decode cL_law 354 = .ok (.aload_n 0, 1) := by decide +kernel
theorem dL_law_355 : decode cL_law 355 = .ok (.iload_n 3, 1) := by decide +kernel
theorem dL_law_356 : decode cL_law 356 = .ok (.iconst 1, 1) := by decide +kernel
theorem dL_law_357 : decode cL_law 357 = .ok (.iadd, 1) := by decide +kernel
theorem dL_law_358 : decode cL_law 358 = .ok (.iaload, 1) := by decide +kernel
theorem dL_law_359 : decode cL_law 359 = .ok (.invokevirtual 36, 3) := by decide +kernel
theorem dL_law_362 : decode cL_law 362 = .ok (.if_icmp .eq 1080, 3) := by decide +kernel
theorem dL_law_365 : decode cL_law 365 = .ok (.iconst 0, 1) := by decide +kernel
theorem dL_law_366 : decode cL_law 366 = .ok (.ireturn, 1) := by decide +kernel
theorem dL_law_367 : decode cL_law 367 = .ok (.aload_n 1, 1) := by decide +kernel
theorem dL_law_368 : decode cL_law 368 = .ok (.aload_n 0, 1) := by decide +kernel
theorem dL_law_369 : decode cL_law 369 = .ok (.iload_n 3, 1) := by decide +kernel
theorem dL_law_370 : decode cL_law 370 = .ok (.iconst 1, 1) := by decide +kernel
theorem dL_law_371 : decode cL_law 371 = .ok (.iadd, 1) := by decide +kernel
theorem dL_law_372 : decode cL_law 372 = .ok (.iaload, 1) := by decide +kernel
theorem dL_law_373 : decode cL_law 373 = .ok (.invokevirtual 37, 3) := by decide +kernel
theorem dL_law_376 : decode cL_law 376 = .ok (.aload_n 2, 1) := by decide +kernel
theorem dL_law_377 : decode cL_law 377 = .ok (.aload_n 0, 1) := by decide +kernel
theorem dL_law_378 : decode cL_law 378 = .ok (.iload_n 3, 1) := by decide +kernel
theorem dL_law_379 : decode cL_law 379 = .ok (.iconst 1, 1) := by decide +kernel
theorem dL_law_380 : decode cL_law 380 = .ok (.iadd, 1) := by decide +kernel
theorem dL_law_381 : decode cL_law 381 = .ok (.iaload, 1) := by decide +kernel
theorem dL_law_382 : decode cL_law 382 = .ok (.invokevirtual 40, 3) := by decide +kernel
theorem dL_law_385 : decode cL_law 385 = .ok (.if_icmp .eq 1057, 3) := by decide +kernel
theorem dL_law_388 : decode cL_law 388 = .ok (.iconst 0, 1) := by decide +kernel
theorem dL_law_389 : decode cL_law 389 = .ok (.ireturn, 1) := by decide +kernel
theorem dL_law_390 : decode cL_law 390 = .ok (.aload_n 1, 1) := by decide +kernel
theorem dL_law_391 : decode cL_law 391 = .ok (.aload_n 0, 1) := by decide +kernel
theorem dL_law_392 : decode cL_law 392 = .ok (.iload_n 3, 1) := by decide +kernel
theorem dL_law_393 : decode cL_law 393 = .ok (.iconst 1, 1) := by decide +kernel
theorem dL_law_394 : decode cL_law 394 = .ok (.iadd, 1) := by decide +kernel
theorem dL_law_395 : decode cL_law 395 = .ok (.iaload, 1) := by decide +kernel
theorem dL_law_396 : decode cL_law 396 = .ok (.invokevirtual 41, 3) := by decide +kernel
theorem dL_law_399 : decode cL_law 399 = .ok (.aload_n 2, 1) := by decide +kernel
theorem dL_law_400 : decode cL_law 400 = .ok (.aload_n 0, 1) := by decide +kernel
theorem dL_law_401 : decode cL_law 401 = .ok (.iload_n 3, 1) := by decide +kernel
theorem dL_law_402 : decode cL_law 402 = .ok (.iconst 1, 1) := by decide +kernel
theorem dL_law_403 : decode cL_law 403 = .ok (.iadd, 1) := by decide +kernel
theorem dL_law_404 : decode cL_law 404 = .ok (.iaload, 1) := by decide +kernel
theorem dL_law_405 : decode cL_law 405 = .ok (.invokevirtual 44, 3) := by decide +kernel
theorem dL_law_408 : decode cL_law 408 = .ok (.if_icmp .eq 1034, 3) := by decide +kernel
theorem dL_law_411 : decode cL_law 411 = .ok (.iconst 0, 1) := by decide +kernel
theorem dL_law_412 : decode cL_law 412 = .ok (.ireturn, 1) := by decide +kernel
theorem dL_law_413 : decode cL_law 413 = .ok (.aload_n 1, 1) := by decide +kernel
theorem dL_law_414 : decode cL_law 414 = .ok (.aload_n 0, 1) := by decide +kernel
theorem dL_law_415 : decode cL_law 415 = .ok (.iload_n 3, 1) := by decide +kernel
theorem dL_law_416 : decode cL_law 416 = .ok (.iconst 1, 1) := by decide +kernel
theorem dL_law_417 : decode cL_law 417 = .ok (.iadd, 1) := by decide +kernel
theorem dL_law_418 : decode cL_law 418 = .ok (.iaload, 1) := by decide +kernel
theorem dL_law_419 : decode cL_law 419 = .ok (.invokevirtual 45, 3) := by decide +kernel
theorem dL_law_422 : decode cL_law 422 = .ok (.aload_n 2, 1) := by decide +kernel
theorem dL_law_423 : decode cL_law 423 = .ok (.aload_n 0, 1) := by decide +kernel
theorem dL_law_424 : decode cL_law 424 = .ok (.iload_n 3, 1) := by decide +kernel
theorem dL_law_425 : decode cL_law 425 = .ok (.iconst 1, 1) := by decide +kernel
theorem dL_law_426 : decode cL_law 426 = .ok (.iadd, 1) := by decide +kernel
theorem dL_law_427 : decode cL_law 427 = .ok (.iaload, 1) := by decide +kernel
theorem dL_law_428 : decode cL_law 428 = .ok (.invokevirtual 48, 3) := by decide +kernel
theorem dL_law_431 : decode cL_law 431 = .ok (.if_icmp .eq 1011, 3) := by decide +kernel
theorem dL_law_434 : decode cL_law 434 = .ok (.iconst 0, 1) := by decide +kernel
theorem dL_law_435 : decode cL_law 435 = .ok (.ireturn, 1) := by decide +kernel
theorem dL_law_436 : decode cL_law 436 = .ok (.aload_n 1, 1) := by decide +kernel
theorem dL_law_437 : decode cL_law 437 = .ok (.aload_n 0, 1) := by decide +kernel
theorem dL_law_438 : decode cL_law 438 = .ok (.iload_n 3, 1) := by decide +kernel
theorem dL_law_439 : decode cL_law 439 = .ok (.iconst 1, 1) := by decide +kernel
theorem dL_law_440 : decode cL_law 440 = .ok (.iadd, 1) := by decide +kernel
theorem dL_law_441 : decode cL_law 441 = .ok (.iaload, 1) := by decide +kernel
theorem dL_law_442 : decode cL_law 442 = .ok (.invokevirtual 49, 3) := by decide +kernel
theorem dL_law_445 : decode cL_law 445 = .ok (.aload_n 2, 1) := by decide +kernel
theorem dL_law_446 : decode cL_law 446 = .ok (.aload_n 0, 1) := by decide +kernel
theorem dL_law_447 : decode cL_law 447 = .ok (.iload_n 3, 1) := by decide +kernel
theorem dL_law_448 : decode cL_law 448 = .ok (.iconst 1, 1) := by decide +kernel
theorem dL_law_449 : decode cL_law 449 = .ok (.iadd, 1) := by decide +kernel
theorem dL_law_450 : decode cL_law 450 = .ok (.iaload, 1) := by decide +kernel
theorem dL_law_451 : decode cL_law 451 = .ok (.invokevirtual 52, 3) := by decide +kernel
theorem dL_law_454 : decode cL_law 454 = .ok (.if_icmp .eq 988, 3) := by decide +kernel
theorem dL_law_457 : decode cL_law 457 = .ok (.iconst 0, 1) := by decide +kernel
theorem dL_law_458 : decode cL_law 458 = .ok (.ireturn, 1) := by decide +kernel
theorem dL_law_459 : decode cL_law 459 = .ok (.aload_n 1, 1) := by decide +kernel
theorem dL_law_460 : decode cL_law 460 = .ok (.invokevirtual 53, 3) := by decide +kernel
theorem dL_law_463 : decode cL_law 463 = .ok (.aload_n 2, 1) := by decide +kernel
theorem dL_law_464 : decode cL_law 464 = .ok (.invokevirtual 56, 3) := by decide +kernel
theorem dL_law_467 : decode cL_law 467 = .ok (.if_icmp .eq 975, 3) := by decide +kernel
theorem dL_law_470 : decode cL_law 470 = .ok (.iconst 0, 1) := by decide +kernel
theorem dL_law_471 : decode cL_law 471 = .ok (.ireturn, 1) := by decide +kernel
theorem dL_law_472 : decode cL_law 472 = .ok (.aload_n 1, 1) := by decide +kernel
theorem dL_law_473 : decode cL_law 473 = .ok (.aload_n 0, 1) := by decide +kernel
theorem dL_law_474 : decode cL_law 474 = .ok (.iload_n 3, 1) := by decide +kernel
theorem dL_law_475 : decode cL_law 475 = .ok (.iconst 1, 1) := by decide +kernel
theorem dL_law_476 : decode cL_law 476 = .ok (.iadd, 1) := by decide +kernel
theorem dL_law_477 : decode cL_law 477 = .ok (.iaload, 1) := by decide +kernel
theorem dL_law_478 : decode cL_law 478 = .ok (.aload_n 0, 1) := by decide +kernel
theorem dL_law_479 : decode cL_law 479 = .ok (.iload_n 3, 1) := by decide +kernel
theorem dL_law_480 : decode cL_law 480 = .ok (.iconst 2, 1) := by decide +kernel
theorem dL_law_481 : decode cL_law 481 = .ok (.iadd, 1) := by decide +kernel
theorem dL_law_482 : decode cL_law 482 = .ok (.iaload, 1) := by decide +kernel
theorem dL_law_483 : decode cL_law 483 = .ok (.aload_n 0, 1) := by decide +kernel
theorem dL_law_484 : decode cL_law 484 = .ok (.iload_n 3, 1) := by decide +kernel
theorem dL_law_485 : decode cL_law 485 = .ok (.iconst 3, 1) := by decide +kernel
theorem dL_law_486 : decode cL_law 486 = .ok (.iadd, 1) := by decide +kernel
theorem dL_law_487 : decode cL_law 487 = .ok (.iaload, 1) := by decide +kernel
theorem dL_law_488 : decode cL_law 488 = .ok (.invokevirtual 57, 3) := by decide +kernel
theorem dL_law_491 : decode cL_law 491 = .ok (.aload_n 2, 1) := by decide +kernel
theorem dL_law_492 : decode cL_law 492 = .ok (.aload_n 0, 1) := by decide +kernel
theorem dL_law_493 : decode cL_law 493 = .ok (.iload_n 3, 1) := by decide +kernel
theorem dL_law_494 : decode cL_law 494 = .ok (.iconst 1, 1) := by decide +kernel
theorem dL_law_495 : decode cL_law 495 = .ok (.iadd, 1) := by decide +kernel
theorem dL_law_496 : decode cL_law 496 = .ok (.iaload, 1) := by decide +kernel
theorem dL_law_497 : decode cL_law 497 = .ok (.aload_n 0, 1) := by decide +kernel
theorem dL_law_498 : decode cL_law 498 = .ok (.iload_n 3, 1) := by decide +kernel
theorem dL_law_499 : decode cL_law 499 = .ok (.iconst 2, 1) := by decide +kernel
theorem dL_law_500 : decode cL_law 500 = .ok (.iadd, 1) := by decide +kernel
theorem dL_law_501 : decode cL_law 501 = .ok (.iaload, 1) := by decide +kernel
theorem dL_law_502 : decode cL_law 502 = .ok (.aload_n 0, 1) := by decide +kernel
theorem dL_law_503 : decode cL_law 503 = .ok (.iload_n 3, 1) := by decide +kernel
theorem dL_law_504 : decode cL_law 504 = .ok (.iconst 3, 1) := by decide +kernel
theorem dL_law_505 : decode cL_law 505 = .ok (.iadd, 1) := by decide +kernel
theorem dL_law_506 : decode cL_law 506 = .ok (.iaload, 1) := by decide +kernel
theorem dL_law_507 : decode cL_law 507 = .ok (.invokevirtual 60, 3) := by decide +kernel
theorem dL_law_510 : decode cL_law 510 = .ok (.if_icmp .eq 932, 3) := by decide +kernel
theorem dL_law_513 : decode cL_law 513 = .ok (.iconst 0, 1) := by decide +kernel
theorem dL_law_514 : decode cL_law 514 = .ok (.ireturn, 1) := by decide +kernel
theorem dL_law_515 : decode cL_law 515 = .ok (.aload_n 1, 1) := by decide +kernel
theorem dL_law_516 : decode cL_law 516 = .ok (.aload_n 0, 1) := by decide +kernel
theorem dL_law_517 : decode cL_law 517 = .ok (.iload_n 3, 1) := by decide +kernel
theorem dL_law_518 : decode cL_law 518 = .ok (.iconst 1, 1) := by decide +kernel
theorem dL_law_519 : decode cL_law 519 = .ok (.iadd, 1) := by decide +kernel
theorem dL_law_520 : decode cL_law 520 = .ok (.iaload, 1) := by decide +kernel
theorem dL_law_521 : decode cL_law 521 = .ok (.aload_n 0, 1) := by decide +kernel
theorem dL_law_522 : decode cL_law 522 = .ok (.iload_n 3, 1) := by decide +kernel
theorem dL_law_523 : decode cL_law 523 = .ok (.iconst 2, 1) := by decide +kernel
theorem dL_law_524 : decode cL_law 524 = .ok (.iadd, 1) := by decide +kernel
theorem dL_law_525 : decode cL_law 525 = .ok (.iaload, 1) := by decide +kernel
theorem dL_law_526 : decode cL_law 526 = .ok (.invokevirtual 61, 3) := by decide +kernel
theorem dL_law_529 : decode cL_law 529 = .ok (.aload_n 2, 1) := by decide +kernel
theorem dL_law_530 : decode cL_law 530 = .ok (.aload_n 0, 1) := by decide +kernel
theorem dL_law_531 : decode cL_law 531 = .ok (.iload_n 3, 1) := by decide +kernel
theorem dL_law_532 : decode cL_law 532 = .ok (.iconst 1, 1) := by decide +kernel
theorem dL_law_533 : decode cL_law 533 = .ok (.iadd, 1) := by decide +kernel
theorem dL_law_534 : decode cL_law 534 = .ok (.iaload, 1) := by decide +kernel
theorem dL_law_535 : decode cL_law 535 = .ok (.aload_n 0, 1) := by decide +kernel
theorem dL_law_536 : decode cL_law 536 = .ok (.iload_n 3, 1) := by decide +kernel
theorem dL_law_537 : decode cL_law 537 = .ok (.iconst 2, 1) := by decide +kernel
theorem dL_law_538 : decode cL_law 538 = .ok (.iadd, 1) := by decide +kernel
theorem dL_law_539 : decode cL_law 539 = .ok (.iaload, 1) := by decide +kernel
theorem dL_law_540 : decode cL_law 540 = .ok (.invokevirtual 64, 3) := by decide +kernel
theorem dL_law_543 : decode cL_law 543 = .ok (.if_icmp .eq 899, 3) := by decide +kernel
theorem dL_law_546 : decode cL_law 546 = .ok (.iconst 0, 1) := by decide +kernel
theorem dL_law_547 : decode cL_law 547 = .ok (.ireturn, 1) := by decide +kernel
theorem dL_law_548 : decode cL_law 548 = .ok (.aload_n 1, 1) := by decide +kernel
theorem dL_law_549 : decode cL_law 549 = .ok (.aload_n 0, 1) := by decide +kernel
theorem dL_law_550 : decode cL_law 550 = .ok (.iload_n 3, 1) := by decide +kernel
theorem dL_law_551 : decode cL_law 551 = .ok (.iconst 1, 1) := by decide +kernel
theorem dL_law_552 : decode cL_law 552 = .ok (.iadd, 1) := by decide +kernel
theorem dL_law_553 : decode cL_law 553 = .ok (.iaload, 1) := by decide +kernel
theorem dL_law_554 : decode cL_law 554 = .ok (.invokevirtual 65, 3) := by decide +kernel
theorem dL_law_557 : decode cL_law 557 = .ok (.aload_n 2, 1) := by decide +kernel
theorem dL_law_558 : decode cL_law 558 = .ok (.aload_n 0, 1) := by decide +kernel
theorem dL_law_559 : decode cL_law 559 = .ok (.iload_n 3, 1) := by decide +kernel
theorem dL_law_560 : decode cL_law 560 = .ok (.iconst 1, 1) := by decide +kernel
theorem dL_law_561 : decode cL_law 561 = .ok (.iadd, 1) := by decide +kernel
theorem dL_law_562 : decode cL_law 562 = .ok (.iaload, 1) := by decide +kernel
theorem dL_law_563 : decode cL_law 563 = .ok (.invokevirtual 68, 3) := by decide +kernel
theorem dL_law_566 : decode cL_law 566 = .ok (.if_icmp .eq 876, 3) := by decide +kernel
theorem dL_law_569 : decode cL_law 569 = .ok (.iconst 0, 1) := by decide +kernel
theorem dL_law_570 : decode cL_law 570 = .ok (.ireturn, 1) := by decide +kernel
theorem dL_law_571 : decode cL_law 571 = .ok (.aload_n 1, 1) := by decide +kernel
theorem dL_law_572 : decode cL_law 572 = .ok (.aload_n 0, 1) := by decide +kernel
theorem dL_law_573 : decode cL_law 573 = .ok (.iload_n 3, 1) := by decide +kernel
theorem dL_law_574 : decode cL_law 574 = .ok (.iconst 1, 1) := by decide +kernel
theorem dL_law_575 : decode cL_law 575 = .ok (.iadd, 1) := by decide +kernel
theorem dL_law_576 : decode cL_law 576 = .ok (.iaload, 1) := by decide +kernel
theorem dL_law_577 : decode cL_law 577 = .ok (.invokevirtual 69, 3) := by decide +kernel
theorem dL_law_580 : decode cL_law 580 = .ok (.aload_n 2, 1) := by decide +kernel
theorem dL_law_581 : decode cL_law 581 = .ok (.aload_n 0, 1) := by decide +kernel
theorem dL_law_582 : decode cL_law 582 = .ok (.iload_n 3, 1) := by decide +kernel
theorem dL_law_583 : decode cL_law 583 = .ok (.iconst 1, 1) := by decide +kernel
theorem dL_law_584 : decode cL_law 584 = .ok (.iadd, 1) := by decide +kernel
theorem dL_law_585 : decode cL_law 585 = .ok (.iaload, 1) := by decide +kernel
theorem dL_law_586 : decode cL_law 586 = .ok (.invokevirtual 72, 3) := by decide +kernel
theorem dL_law_589 : decode cL_law 589 = .ok (.if_icmp .eq 853, 3) := by decide +kernel
theorem dL_law_592 : decode cL_law 592 = .ok (.iconst 0, 1) := by decide +kernel
theorem dL_law_593 : decode cL_law 593 = .ok (.ireturn, 1) := by decide +kernel
theorem dL_law_594 : decode cL_law 594 = .ok (.aload_n 1, 1) := by decide +kernel
theorem dL_law_595 : decode cL_law 595 = .ok (.aload_n 0, 1) := by decide +kernel
theorem dL_law_596 : decode cL_law 596 = .ok (.iload_n 3, 1) := by decide +kernel
theorem dL_law_597 : decode cL_law 597 = .ok (.iconst 1, 1) := by decide +kernel
theorem dL_law_598 : decode cL_law 598 = .ok (.iadd, 1) := by decide +kernel
theorem dL_law_599 : decode cL_law 599 = .ok (.iaload, 1) := by decide +kernel
theorem dL_law_600 : decode cL_law 600 = .ok (.invokevirtual 73, 3) := by decide +kernel
theorem dL_law_603 : decode cL_law 603 = .ok (.aload_n 2, 1) := by decide +kernel
theorem dL_law_604 : decode cL_law 604 = .ok (.aload_n 0, 1) := by decide +kernel
theorem dL_law_605 : decode cL_law 605 = .ok (.iload_n 3, 1) := by decide +kernel
theorem dL_law_606 : decode cL_law 606 = .ok (.iconst 1, 1) := by decide +kernel
theorem dL_law_607 : decode cL_law 607 = .ok (.iadd, 1) := by decide +kernel
theorem dL_law_608 : decode cL_law 608 = .ok (.iaload, 1) := by decide +kernel
theorem dL_law_609 : decode cL_law 609 = .ok (.invokevirtual 76, 3) := by decide +kernel
theorem dL_law_612 : decode cL_law 612 = .ok (.if_icmp .eq 830, 3) := by decide +kernel
theorem dL_law_615 : decode cL_law 615 = .ok (.iconst 0, 1) := by decide +kernel
theorem dL_law_616 : decode cL_law 616 = .ok (.ireturn, 1) := by decide +kernel
theorem dL_law_617 : decode cL_law 617 = .ok (.aload_n 1, 1) := by decide +kernel
theorem dL_law_618 : decode cL_law 618 = .ok (.aload_n 0, 1) := by decide +kernel
theorem dL_law_619 : decode cL_law 619 = .ok (.iload_n 3, 1) := by decide +kernel
theorem dL_law_620 : decode cL_law 620 = .ok (.iconst 1, 1) := by decide +kernel
theorem dL_law_621 : decode cL_law 621 = .ok (.iadd, 1) := by decide +kernel
theorem dL_law_622 : decode cL_law 622 = .ok (.iaload, 1) := by decide +kernel
theorem dL_law_623 : decode cL_law 623 = .ok (.invokevirtual 77, 3) := by decide +kernel
theorem dL_law_626 : decode cL_law 626 = .ok (.aload_n 2, 1) := by decide +kernel
theorem dL_law_627 : decode cL_law 627 = .ok (.aload_n 0, 1) := by decide +kernel
theorem dL_law_628 : decode cL_law 628 = .ok (.iload_n 3, 1) := by decide +kernel
theorem dL_law_629 : decode cL_law 629 = .ok (.iconst 1, 1) := by decide +kernel
theorem dL_law_630 : decode cL_law 630 = .ok (.iadd, 1) := by decide +kernel
theorem dL_law_631 : decode cL_law 631 = .ok (.iaload, 1) := by decide +kernel
theorem dL_law_632 : decode cL_law 632 = .ok (.invokevirtual 80, 3) := by decide +kernel
theorem dL_law_635 : decode cL_law 635 = .ok (.if_icmp .eq 807, 3) := by decide +kernel
theorem dL_law_638 : decode cL_law 638 = .ok (.iconst 0, 1) := by decide +kernel
theorem dL_law_639 : decode cL_law 639 = .ok (.ireturn, 1) := by decide +kernel
theorem dL_law_640 : decode cL_law 640 = .ok (.aload_n 1, 1) := by decide +kernel
theorem dL_law_641 : decode cL_law 641 = .ok (.aload_n 0, 1) := by decide +kernel
theorem dL_law_642 : decode cL_law 642 = .ok (.iload_n 3, 1) := by decide +kernel
theorem dL_law_643 : decode cL_law 643 = .ok (.iconst 1, 1) := by decide +kernel
theorem dL_law_644 : decode cL_law 644 = .ok (.iadd, 1) := by decide +kernel
theorem dL_law_645 : decode cL_law 645 = .ok (.iaload, 1) := by decide +kernel
theorem dL_law_646 : decode cL_law 646 = .ok (.invokevirtual 81, 3) := by decide +kernel
theorem dL_law_649 : decode cL_law 649 = .ok (.aload_n 2, 1) := by decide +kernel
theorem dL_law_650 : decode cL_law 650 = .ok (.aload_n 0, 1) := by decide +kernel
theorem dL_law_651 : decode cL_law 651 = .ok (.iload_n 3, 1) := by decide +kernel
theorem dL_law_652 : decode cL_law 652 = .ok (.iconst 1, 1) := by decide +kernel
theorem dL_law_653 : decode cL_law 653 = .ok (.iadd, 1) := by decide +kernel
theorem dL_law_654 : decode cL_law 654 = .ok (.iaload, 1) := by decide +kernel
theorem dL_law_655 : decode cL_law 655 = .ok (.invokevirtual 84, 3) := by decide +kernel
theorem dL_law_658 : decode cL_law 658 = .ok (.if_icmp .eq 784, 3) := by decide +kernel
theorem dL_law_661 : decode cL_law 661 = .ok (.iconst 0, 1) := by decide +kernel
theorem dL_law_662 : decode cL_law 662 = .ok (.ireturn, 1) := by decide +kernel
theorem dL_law_663 : decode cL_law 663 = .ok (.aload_n 1, 1) := by decide +kernel
theorem dL_law_664 : decode cL_law 664 = .ok (.aload_n 0, 1) := by decide +kernel
theorem dL_law_665 : decode cL_law 665 = .ok (.iload_n 3, 1) := by decide +kernel
theorem dL_law_666 : decode cL_law 666 = .ok (.iconst 1, 1) := by decide +kernel
theorem dL_law_667 : decode cL_law 667 = .ok (.iadd, 1) := by decide +kernel
theorem dL_law_668 : decode cL_law 668 = .ok (.iaload, 1) := by decide +kernel
theorem dL_law_669 : decode cL_law 669 = .ok (.invokevirtual 85, 3) := by decide +kernel
theorem dL_law_672 : decode cL_law 672 = .ok (.aload_n 2, 1) := by decide +kernel
theorem dL_law_673 : decode cL_law 673 = .ok (.aload_n 0, 1) := by decide +kernel
theorem dL_law_674 : decode cL_law 674 = .ok (.iload_n 3, 1) := by decide +kernel
theorem dL_law_675 : decode cL_law 675 = .ok (.iconst 1, 1) := by decide +kernel
theorem dL_law_676 : decode cL_law 676 = .ok (.iadd, 1) := by decide +kernel
theorem dL_law_677 : decode cL_law 677 = .ok (.iaload, 1) := by decide +kernel
theorem dL_law_678 : decode cL_law 678 = .ok (.invokevirtual 88, 3) := by decide +kernel
theorem dL_law_681 : decode cL_law 681 = .ok (.if_icmp .eq 761, 3) := by decide +kernel
theorem dL_law_684 : decode cL_law 684 = .ok (.iconst 0, 1) := by decide +kernel
theorem dL_law_685 : decode cL_law 685 = .ok (.ireturn, 1) := by decide +kernel
theorem dL_law_686 : decode cL_law 686 = .ok (.aload_n 1, 1) := by decide +kernel
theorem dL_law_687 : decode cL_law 687 = .ok (.aload_n 0, 1) := by decide +kernel
theorem dL_law_688 : decode cL_law 688 = .ok (.iload_n 3, 1) := by decide +kernel
theorem dL_law_689 : decode cL_law 689 = .ok (.iconst 1, 1) := by decide +kernel
theorem dL_law_690 : decode cL_law 690 = .ok (.iadd, 1) := by decide +kernel
theorem dL_law_691 : decode cL_law 691 = .ok (.iaload, 1) := by decide +kernel
theorem dL_law_692 : decode cL_law 692 = .ok (.invokevirtual 89, 3) := by decide +kernel
theorem dL_law_695 : decode cL_law 695 = .ok (.aload_n 2, 1) := by decide +kernel
theorem dL_law_696 : decode cL_law 696 = .ok (.aload_n 0, 1) := by decide +kernel
theorem dL_law_697 : decode cL_law 697 = .ok (.iload_n 3, 1) := by decide +kernel
theorem dL_law_698 : decode cL_law 698 = .ok (.iconst 1, 1) := by decide +kernel
theorem dL_law_699 : decode cL_law 699 = .ok (.iadd, 1) := by decide +kernel
theorem dL_law_700 : decode cL_law 700 = .ok (.iaload, 1) := by decide +kernel
theorem dL_law_701 : decode cL_law 701 = .ok (.invokevirtual 92, 3) := by decide +kernel
theorem dL_law_704 : decode cL_law 704 = .ok (.if_icmp .eq 738, 3) := by decide +kernel
theorem dL_law_707 : decode cL_law 707 = .ok (.iconst 0, 1) := by decide +kernel
theorem dL_law_708 : decode cL_law 708 = .ok (.ireturn, 1) := by decide +kernel
theorem dL_law_709 : decode cL_law 709 = .ok (.aload_n 1, 1) := by decide +kernel
theorem dL_law_710 : decode cL_law 710 = .ok (.aload_n 0, 1) := by decide +kernel
theorem dL_law_711 : decode cL_law 711 = .ok (.iload_n 3, 1) := by decide +kernel
theorem dL_law_712 : decode cL_law 712 = .ok (.iconst 1, 1) := by decide +kernel
theorem dL_law_713 : decode cL_law 713 = .ok (.iadd, 1) := by decide +kernel
theorem dL_law_714 : decode cL_law 714 = .ok (.iaload, 1) := by decide +kernel
theorem dL_law_715 : decode cL_law 715 = .ok (.aload_n 0, 1) := by decide +kernel
theorem dL_law_716 : decode cL_law 716 = .ok (.iload_n 3, 1) := by decide +kernel
theorem dL_law_717 : decode cL_law 717 = .ok (.iconst 2, 1) := by decide +kernel
theorem dL_law_718 : decode cL_law 718 = .ok (.iadd, 1) := by decide +kernel
theorem dL_law_719 : decode cL_law 719 = .ok (.iaload, 1) := by decide +kernel
theorem dL_law_720 : decode cL_law 720 = .ok (.invokevirtual 93, 3) := by decide +kernel
theorem dL_law_723 : decode cL_law 723 = .ok (.aload_n 2, 1) := by decide +kernel
theorem dL_law_724 : decode cL_law 724 = .ok (.aload_n 0, 1) := by decide +kernel
theorem dL_law_725 : decode cL_law 725 = .ok (.iload_n 3, 1) := by decide +kernel
theorem dL_law_726 : decode cL_law 726 = .ok (.iconst 1, 1) := by decide +kernel
theorem dL_law_727 : decode cL_law 727 = .ok (.iadd, 1) := by decide +kernel
theorem dL_law_728 : decode cL_law 728 = .ok (.iaload, 1) := by decide +kernel
theorem dL_law_729 : decode cL_law 729 = .ok (.aload_n 0, 1) := by decide +kernel
theorem dL_law_730 : decode cL_law 730 = .ok (.iload_n 3, 1) := by decide +kernel
theorem dL_law_731 : decode cL_law 731 = .ok (.iconst 2, 1) := by decide +kernel
theorem dL_law_732 : decode cL_law 732 = .ok (.iadd, 1) := by decide +kernel
theorem dL_law_733 : decode cL_law 733 = .ok (.iaload, 1) := by decide +kernel
theorem dL_law_734 : decode cL_law 734 = .ok (.invokevirtual 96, 3) := by decide +kernel
theorem dL_law_737 : decode cL_law 737 = .ok (.if_icmp .eq 705, 3) := by decide +kernel
theorem dL_law_740 : decode cL_law 740 = .ok (.iconst 0, 1) := by decide +kernel
theorem dL_law_741 : decode cL_law 741 = .ok (.ireturn, 1) := by decide +kernel
theorem dL_law_742 : decode cL_law 742 = .ok (.aload_n 1, 1) := by decide +kernel
theorem dL_law_743 : decode cL_law 743 = .ok (.aload_n 0, 1) := by decide +kernel
theorem dL_law_744 : decode cL_law 744 = .ok (.iload_n 3, 1) := by decide +kernel
theorem dL_law_745 : decode cL_law 745 = .ok (.iconst 1, 1) := by decide +kernel
theorem dL_law_746 : decode cL_law 746 = .ok (.iadd, 1) := by decide +kernel
theorem dL_law_747 : decode cL_law 747 = .ok (.iaload, 1) := by decide +kernel
theorem dL_law_748 : decode cL_law 748 = .ok (.aload_n 0, 1) := by decide +kernel
theorem dL_law_749 : decode cL_law 749 = .ok (.iload_n 3, 1) := by decide +kernel
theorem dL_law_750 : decode cL_law 750 = .ok (.iconst 2, 1) := by decide +kernel
theorem dL_law_751 : decode cL_law 751 = .ok (.iadd, 1) := by decide +kernel
theorem dL_law_752 : decode cL_law 752 = .ok (.iaload, 1) := by decide +kernel
theorem dL_law_753 : decode cL_law 753 = .ok (.invokevirtual 97, 3) := by decide +kernel
theorem dL_law_756 : decode cL_law 756 = .ok (.aload_n 2, 1) := by decide +kernel
theorem dL_law_757 : decode cL_law 757 = .ok (.aload_n 0, 1) := by decide +kernel
theorem dL_law_758 : decode cL_law 758 = .ok (.iload_n 3, 1) := by decide +kernel
theorem dL_law_759 : decode cL_law 759 = .ok (.iconst 1, 1) := by decide +kernel
theorem dL_law_760 : decode cL_law 760 = .ok (.iadd, 1) := by decide +kernel
theorem dL_law_761 : decode cL_law 761 = .ok (.iaload, 1) := by decide +kernel
theorem dL_law_762 : decode cL_law 762 = .ok (.aload_n 0, 1) := by decide +kernel
theorem dL_law_763 : decode cL_law 763 = .ok (.iload_n 3, 1) := by decide +kernel
theorem dL_law_764 : decode cL_law 764 = .ok (.iconst 2, 1) := by decide +kernel
theorem dL_law_765 : decode cL_law 765 = .ok (.iadd, 1) := by decide +kernel
theorem dL_law_766 : decode cL_law 766 = .ok (.iaload, 1) := by decide +kernel
theorem dL_law_767 : decode cL_law 767 = .ok (.invokevirtual 100, 3) := by decide +kernel
theorem dL_law_770 : decode cL_law 770 = .ok (.if_icmp .eq 672, 3) := by decide +kernel
theorem dL_law_773 : decode cL_law 773 = .ok (.iconst 0, 1) := by decide +kernel
theorem dL_law_774 : decode cL_law 774 = .ok (.ireturn, 1) := by decide +kernel
theorem dL_law_775 : decode cL_law 775 = .ok (.aload_n 1, 1) := by decide +kernel
theorem dL_law_776 : decode cL_law 776 = .ok (.aload_n 0, 1) := by decide +kernel
theorem dL_law_777 : decode cL_law 777 = .ok (.iload_n 3, 1) := by decide +kernel
theorem dL_law_778 : decode cL_law 778 = .ok (.iconst 1, 1) := by decide +kernel
theorem dL_law_779 : decode cL_law 779 = .ok (.iadd, 1) := by decide +kernel
theorem dL_law_780 : decode cL_law 780 = .ok (.iaload, 1) := by decide +kernel
theorem dL_law_781 : decode cL_law 781 = .ok (.invokevirtual 101, 3) := by decide +kernel
theorem dL_law_784 : decode cL_law 784 = .ok (.aload_n 2, 1) := by decide +kernel
theorem dL_law_785 : decode cL_law 785 = .ok (.aload_n 0, 1) := by decide +kernel
theorem dL_law_786 : decode cL_law 786 = .ok (.iload_n 3, 1) := by decide +kernel
theorem dL_law_787 : decode cL_law 787 = .ok (.iconst 1, 1) := by decide +kernel
theorem dL_law_788 : decode cL_law 788 = .ok (.iadd, 1) := by decide +kernel
theorem dL_law_789 : decode cL_law 789 = .ok (.iaload, 1) := by decide +kernel
theorem dL_law_790 : decode cL_law 790 = .ok (.invokevirtual 104, 3) := by decide +kernel
theorem dL_law_793 : decode cL_law 793 = .ok (.if_icmp .eq 649, 3) := by decide +kernel
theorem dL_law_796 : decode cL_law 796 = .ok (.iconst 0, 1) := by decide +kernel
theorem dL_law_797 : decode cL_law 797 = .ok (.ireturn, 1) := by decide +kernel
theorem dL_law_798 : decode cL_law 798 = .ok (.aload_n 1, 1) := by decide +kernel
theorem dL_law_799 : decode cL_law 799 = .ok (.aload_n 0, 1) := by decide +kernel
theorem dL_law_800 : decode cL_law 800 = .ok (.iload_n 3, 1) := by decide +kernel
theorem dL_law_801 : decode cL_law 801 = .ok (.iconst 1, 1) := by decide +kernel
theorem dL_law_802 : decode cL_law 802 = .ok (.iadd, 1) := by decide +kernel
theorem dL_law_803 : decode cL_law 803 = .ok (.iaload, 1) := by decide +kernel
theorem dL_law_804 : decode cL_law 804 = .ok (.invokevirtual 105, 3) := by decide +kernel
theorem dL_law_807 : decode cL_law 807 = .ok (.aload_n 2, 1) := by decide +kernel
theorem dL_law_808 : decode cL_law 808 = .ok (.aload_n 0, 1) := by decide +kernel
theorem dL_law_809 : decode cL_law 809 = .ok (.iload_n 3, 1) := by decide +kernel
theorem dL_law_810 : decode cL_law 810 = .ok (.iconst 1, 1) := by decide +kernel
theorem dL_law_811 : decode cL_law 811 = .ok (.iadd, 1) := by decide +kernel
theorem dL_law_812 : decode cL_law 812 = .ok (.iaload, 1) := by decide +kernel
theorem dL_law_813 : decode cL_law 813 = .ok (.invokevirtual 108, 3) := by decide +kernel
theorem dL_law_816 : decode cL_law 816 = .ok (.if_icmp .eq 626, 3) := by decide +kernel
theorem dL_law_819 : decode cL_law 819 = .ok (.iconst 0, 1) := by decide +kernel
theorem dL_law_820 : decode cL_law 820 = .ok (.ireturn, 1) := by decide +kernel
theorem dL_law_821 : decode cL_law 821 = .ok (.aload_n 1, 1) := by decide +kernel
theorem dL_law_822 : decode cL_law 822 = .ok (.aload_n 0, 1) := by decide +kernel
theorem dL_law_823 : decode cL_law 823 = .ok (.iload_n 3, 1) := by decide +kernel
theorem dL_law_824 : decode cL_law 824 = .ok (.iconst 1, 1) := by decide +kernel
theorem dL_law_825 : decode cL_law 825 = .ok (.iadd, 1) := by decide +kernel
theorem dL_law_826 : decode cL_law 826 = .ok (.iaload, 1) := by decide +kernel
theorem dL_law_827 : decode cL_law 827 = .ok (.invokevirtual 109, 3) := by decide +kernel
theorem dL_law_830 : decode cL_law 830 = .ok (.aload_n 2, 1) := by decide +kernel
theorem dL_law_831 : decode cL_law 831 = .ok (.aload_n 0, 1) := by decide +kernel
theorem dL_law_832 : decode cL_law 832 = .ok (.iload_n 3, 1) := by decide +kernel
theorem dL_law_833 : decode cL_law 833 = .ok (.iconst 1, 1) := by decide +kernel
theorem dL_law_834 : decode cL_law 834 = .ok (.iadd, 1) := by decide +kernel
theorem dL_law_835 : decode cL_law 835 = .ok (.iaload, 1) := by decide +kernel
theorem dL_law_836 : decode cL_law 836 = .ok (.invokevirtual 112, 3) := by decide +kernel
theorem dL_law_839 : decode cL_law 839 = .ok (.if_icmp .eq 603, 3) := by decide +kernel
theorem dL_law_842 : decode cL_law 842 = .ok (.iconst 0, 1) := by decide +kernel
theorem dL_law_843 : decode cL_law 843 = .ok (.ireturn, 1) := by decide +kernel
theorem dL_law_844 : decode cL_law 844 = .ok (.aload_n 1, 1) := by decide +kernel
theorem dL_law_845 : decode cL_law 845 = .ok (.aload_n 0, 1) := by decide +kernel
theorem dL_law_846 : decode cL_law 846 = .ok (.iload_n 3, 1) := by decide +kernel
theorem dL_law_847 : decode cL_law 847 = .ok (.iconst 1, 1) := by decide +kernel
theorem dL_law_848 : decode cL_law 848 = .ok (.iadd, 1) := by decide +kernel
theorem dL_law_849 : decode cL_law 849 = .ok (.iaload, 1) := by decide +kernel
theorem dL_law_850 : decode cL_law 850 = .ok (.aload_n 0, 1) := by decide +kernel
theorem dL_law_851 : decode cL_law 851 = .ok (.iload_n 3, 1) := by decide +kernel
theorem dL_law_852 : decode cL_law 852 = .ok (.iconst 2, 1) := by decide +kernel
theorem dL_law_853 : decode cL_law 853 = .ok (.iadd, 1) := by decide +kernel
theorem dL_law_854 : decode cL_law 854 = .ok (.iaload, 1) := by decide +kernel
theorem dL_law_855 : decode cL_law 855 = .ok (.invokevirtual 113, 3) := by decide +kernel
theorem dL_law_858 : decode cL_law 858 = .ok (.aload_n 2, 1) := by decide +kernel
theorem dL_law_859 : decode cL_law 859 = .ok (.aload_n 0, 1) := by decide +kernel
theorem dL_law_860 : decode cL_law 860 = .ok (.iload_n 3, 1) := by decide +kernel
theorem dL_law_861 : decode cL_law 861 = .ok (.iconst 1, 1) := by decide +kernel
theorem dL_law_862 : decode cL_law 862 = .ok (.iadd, 1) := by decide +kernel
theorem dL_law_863 : decode cL_law 863 = .ok (.iaload, 1) := by decide +kernel
theorem dL_law_864 : decode cL_law 864 = .ok (.aload_n 0, 1) := by decide +kernel
theorem dL_law_865 : decode cL_law 865 = .ok (.iload_n 3, 1) := by decide +kernel
theorem dL_law_866 : decode cL_law 866 = .ok (.iconst 2, 1) := by decide +kernel
theorem dL_law_867 : decode cL_law 867 = .ok (.iadd, 1) := by decide +kernel
theorem dL_law_868 : decode cL_law 868 = .ok (.iaload, 1) := by decide +kernel
theorem dL_law_869 : decode cL_law 869 = .ok (.invokevirtual 116, 3) := by decide +kernel
theorem dL_law_872 : decode cL_law 872 = .ok (.if_icmp .eq 570, 3) := by decide +kernel
theorem dL_law_875 : decode cL_law 875 = .ok (.iconst 0, 1) := by decide +kernel
theorem dL_law_876 : decode cL_law 876 = .ok (.ireturn, 1) := by decide +kernel
theorem dL_law_877 : decode cL_law 877 = .ok (.aload_n 1, 1) := by decide +kernel
theorem dL_law_878 : decode cL_law 878 = .ok (.aload_n 0, 1) := by decide +kernel
theorem dL_law_879 : decode cL_law 879 = .ok (.iload_n 3, 1) := by decide +kernel
theorem dL_law_880 : decode cL_law 880 = .ok (.iconst 1, 1) := by decide +kernel
theorem dL_law_881 : decode cL_law 881 = .ok (.iadd, 1) := by decide +kernel
theorem dL_law_882 : decode cL_law 882 = .ok (.iaload, 1) := by decide +kernel
theorem dL_law_883 : decode cL_law 883 = .ok (.aload_n 0, 1) := by decide +kernel
theorem dL_law_884 : decode cL_law 884 = .ok (.iload_n 3, 1) := by decide +kernel
theorem dL_law_885 : decode cL_law 885 = .ok (.iconst 2, 1) := by decide +kernel
theorem dL_law_886 : decode cL_law 886 = .ok (.iadd, 1) := by decide +kernel
theorem dL_law_887 : decode cL_law 887 = .ok (.iaload, 1) := by decide +kernel
theorem dL_law_888 : decode cL_law 888 = .ok (.invokevirtual 117, 3) := by decide +kernel
theorem dL_law_891 : decode cL_law 891 = .ok (.aload_n 2, 1) := by decide +kernel
theorem dL_law_892 : decode cL_law 892 = .ok (.aload_n 0, 1) := by decide +kernel
theorem dL_law_893 : decode cL_law 893 = .ok (.iload_n 3, 1) := by decide +kernel
theorem dL_law_894 : decode cL_law 894 = .ok (.iconst 1, 1) := by decide +kernel
theorem dL_law_895 : decode cL_law 895 = .ok (.iadd, 1) := by decide +kernel
theorem dL_law_896 : decode cL_law 896 = .ok (.iaload, 1) := by decide +kernel
theorem dL_law_897 : decode cL_law 897 = .ok (.aload_n 0, 1) := by decide +kernel
theorem dL_law_898 : decode cL_law 898 = .ok (.iload_n 3, 1) := by decide +kernel
theorem dL_law_899 : decode cL_law 899 = .ok (.iconst 2, 1) := by decide +kernel
theorem dL_law_900 : decode cL_law 900 = .ok (.iadd, 1) := by decide +kernel
theorem dL_law_901 : decode cL_law 901 = .ok (.iaload, 1) := by decide +kernel
theorem dL_law_902 : decode cL_law 902 = .ok (.invokevirtual 120, 3) := by decide +kernel
theorem dL_law_905 : decode cL_law 905 = .ok (.if_icmp .eq 537, 3) := by decide +kernel
theorem dL_law_908 : decode cL_law 908 = .ok (.iconst 0, 1) := by decide +kernel
theorem dL_law_909 : decode cL_law 909 = .ok (.ireturn, 1) := by decide +kernel
theorem dL_law_910 : decode cL_law 910 = .ok (.aload_n 1, 1) := by decide +kernel
theorem dL_law_911 : decode cL_law 911 = .ok (.aload_n 0, 1) := by decide +kernel
theorem dL_law_912 : decode cL_law 912 = .ok (.iload_n 3, 1) := by decide +kernel
theorem dL_law_913 : decode cL_law 913 = .ok (.iconst 1, 1) := by decide +kernel
theorem dL_law_914 : decode cL_law 914 = .ok (.iadd, 1) := by decide +kernel
theorem dL_law_915 : decode cL_law 915 = .ok (.iaload, 1) := by decide +kernel
theorem dL_law_916 : decode cL_law 916 = .ok (.aload_n 0, 1) := by decide +kernel
theorem dL_law_917 : decode cL_law 917 = .ok (.iload_n 3, 1) := by decide +kernel
theorem dL_law_918 : decode cL_law 918 = .ok (.iconst 2, 1) := by decide +kernel
theorem dL_law_919 : decode cL_law 919 = .ok (.iadd, 1) := by decide +kernel
theorem dL_law_920 : decode cL_law 920 = .ok (.iaload, 1) := by decide +kernel
theorem dL_law_921 : decode cL_law 921 = .ok (.aload_n 0, 1) := by decide +kernel
theorem dL_law_922 : decode cL_law 922 = .ok (.iload_n 3, 1) := by decide +kernel
theorem dL_law_923 : decode cL_law 923 = .ok (.iconst 3, 1) := by decide +kernel
theorem dL_law_924 : decode cL_law 924 = .ok (.iadd, 1) := by decide +kernel
theorem dL_law_925 : decode cL_law 925 = .ok (.iaload, 1) := by decide +kernel
theorem dL_law_926 : decode cL_law 926 = .ok (.aload_n 0, 1) := by decide +kernel
theorem dL_law_927 : decode cL_law 927 = .ok (.iload_n 3, 1) := by decide +kernel
theorem dL_law_928 : decode cL_law 928 = .ok (.iconst 4, 1) := by decide +kernel
theorem dL_law_929 : decode cL_law 929 = .ok (.iadd, 1) := by decide +kernel
theorem dL_law_930 : decode cL_law 930 = .ok (.iaload, 1) := by decide +kernel
theorem dL_law_931 : decode cL_law 931 = .ok (.invokevirtual 121, 3) := by decide +kernel
theorem dL_law_934 : decode cL_law 934 = .ok (.aload_n 2, 1) := by decide +kernel
theorem dL_law_935 : decode cL_law 935 = .ok (.aload_n 0, 1) := by decide +kernel
theorem dL_law_936 : decode cL_law 936 = .ok (.iload_n 3, 1) := by decide +kernel
theorem dL_law_937 : decode cL_law 937 = .ok (.iconst 1, 1) := by decide +kernel
theorem dL_law_938 : decode cL_law 938 = .ok (.iadd, 1) := by decide +kernel
theorem dL_law_939 : decode cL_law 939 = .ok (.iaload, 1) := by decide +kernel
theorem dL_law_940 : decode cL_law 940 = .ok (.aload_n 0, 1) := by decide +kernel
theorem dL_law_941 : decode cL_law 941 = .ok (.iload_n 3, 1) := by decide +kernel
theorem dL_law_942 : decode cL_law 942 = .ok (.iconst 2, 1) := by decide +kernel
theorem dL_law_943 : decode cL_law 943 = .ok (.iadd, 1) := by decide +kernel
theorem dL_law_944 : decode cL_law 944 = .ok (.iaload, 1) := by decide +kernel
theorem dL_law_945 : decode cL_law 945 = .ok (.aload_n 0, 1) := by decide +kernel
theorem dL_law_946 : decode cL_law 946 = .ok (.iload_n 3, 1) := by decide +kernel
theorem dL_law_947 : decode cL_law 947 = .ok (.iconst 3, 1) := by decide +kernel
theorem dL_law_948 : decode cL_law 948 = .ok (.iadd, 1) := by decide +kernel
theorem dL_law_949 : decode cL_law 949 = .ok (.iaload, 1) := by decide +kernel
theorem dL_law_950 : decode cL_law 950 = .ok (.aload_n 0, 1) := by decide +kernel
theorem dL_law_951 : decode cL_law 951 = .ok (.iload_n 3, 1) := by decide +kernel
theorem dL_law_952 : decode cL_law 952 = .ok (.iconst 4, 1) := by decide +kernel
theorem dL_law_953 : decode cL_law 953 = .ok (.iadd, 1) := by decide +kernel
theorem dL_law_954 : decode cL_law 954 = .ok (.iaload, 1) := by decide +kernel
theorem dL_law_955 : decode cL_law 955 = .ok (.invokevirtual 125, 3) := by decide +kernel
theorem dL_law_958 : decode cL_law 958 = .ok (.lcmp, 1) := by decide +kernel
theorem dL_law_959 : decode cL_law 959 = .ok (.ifCond .eq 483, 3) := by decide +kernel
theorem dL_law_962 : decode cL_law 962 = .ok (.iconst 0, 1) := by decide +kernel
theorem dL_law_963 : decode cL_law 963 = .ok (.ireturn, 1) := by decide +kernel
theorem dL_law_964 : decode cL_law 964 = .ok (.aload_n 1, 1) := by decide +kernel
theorem dL_law_965 : decode cL_law 965 = .ok (.aload_n 0, 1) := by decide +kernel
theorem dL_law_966 : decode cL_law 966 = .ok (.iload_n 3, 1) := by decide +kernel
theorem dL_law_967 : decode cL_law 967 = .ok (.iconst 1, 1) := by decide +kernel
theorem dL_law_968 : decode cL_law 968 = .ok (.iadd, 1) := by decide +kernel
theorem dL_law_969 : decode cL_law 969 = .ok (.iaload, 1) := by decide +kernel
theorem dL_law_970 : decode cL_law 970 = .ok (.aload_n 0, 1) := by decide +kernel
theorem dL_law_971 : decode cL_law 971 = .ok (.iload_n 3, 1) := by decide +kernel
theorem dL_law_972 : decode cL_law 972 = .ok (.iconst 2, 1) := by decide +kernel
theorem dL_law_973 : decode cL_law 973 = .ok (.iadd, 1) := by decide +kernel
theorem dL_law_974 : decode cL_law 974 = .ok (.iaload, 1) := by decide +kernel
theorem dL_law_975 : decode cL_law 975 = .ok (.invokevirtual 126, 3) := by decide +kernel
theorem dL_law_978 : decode cL_law 978 = .ok (.aload_n 2, 1) := by decide +kernel
theorem dL_law_979 : decode cL_law 979 = .ok (.aload_n 0, 1) := by decide +kernel
theorem dL_law_980 : decode cL_law 980 = .ok (.iload_n 3, 1) := by decide +kernel
theorem dL_law_981 : decode cL_law 981 = .ok (.iconst 1, 1) := by decide +kernel
theorem dL_law_982 : decode cL_law 982 = .ok (.iadd, 1) := by decide +kernel
theorem dL_law_983 : decode cL_law 983 = .ok (.iaload, 1) := by decide +kernel
theorem dL_law_984 : decode cL_law 984 = .ok (.aload_n 0, 1) := by decide +kernel
theorem dL_law_985 : decode cL_law 985 = .ok (.iload_n 3, 1) := by decide +kernel
theorem dL_law_986 : decode cL_law 986 = .ok (.iconst 2, 1) := by decide +kernel
theorem dL_law_987 : decode cL_law 987 = .ok (.iadd, 1) := by decide +kernel
theorem dL_law_988 : decode cL_law 988 = .ok (.iaload, 1) := by decide +kernel
theorem dL_law_989 : decode cL_law 989 = .ok (.invokevirtual 129, 3) := by decide +kernel
theorem dL_law_992 : decode cL_law 992 = .ok (.if_icmp .eq 450, 3) := by decide +kernel
theorem dL_law_995 : decode cL_law 995 = .ok (.iconst 0, 1) := by decide +kernel
theorem dL_law_996 : decode cL_law 996 = .ok (.ireturn, 1) := by decide +kernel
theorem dL_law_997 : decode cL_law 997 = .ok (.aload_n 1, 1) := by decide +kernel
theorem dL_law_998 : decode cL_law 998 = .ok (.aload_n 0, 1) := by decide +kernel
theorem dL_law_999 : decode cL_law 999 = .ok (.iload_n 3, 1) := by decide +kernel
theorem dL_law_1000 : decode cL_law 1000 = .ok (.iconst 1, 1) := by decide +kernel
theorem dL_law_1001 : decode cL_law 1001 = .ok (.iadd, 1) := by decide +kernel
theorem dL_law_1002 : decode cL_law 1002 = .ok (.iaload, 1) := by decide +kernel
theorem dL_law_1003 : decode cL_law 1003 = .ok (.invokevirtual 130, 3) := by decide +kernel
theorem dL_law_1006 : decode cL_law 1006 = .ok (.aload_n 2, 1) := by decide +kernel
theorem dL_law_1007 : decode cL_law 1007 = .ok (.aload_n 0, 1) := by decide +kernel
theorem dL_law_1008 : decode cL_law 1008 = .ok (.iload_n 3, 1) := by decide +kernel
theorem dL_law_1009 : decode cL_law 1009 = .ok (.iconst 1, 1) := by decide +kernel
theorem dL_law_1010 : decode cL_law 1010 = .ok (.iadd, 1) := by decide +kernel
theorem dL_law_1011 : decode cL_law 1011 = .ok (.iaload, 1) := by decide +kernel
theorem dL_law_1012 : decode cL_law 1012 = .ok (.invokevirtual 133, 3) := by decide +kernel
theorem dL_law_1015 : decode cL_law 1015 = .ok (.if_icmp .eq 427, 3) := by decide +kernel
theorem dL_law_1018 : decode cL_law 1018 = .ok (.iconst 0, 1) := by decide +kernel
theorem dL_law_1019 : decode cL_law 1019 = .ok (.ireturn, 1) := by decide +kernel
theorem dL_law_1020 : decode cL_law 1020 = .ok (.aload_n 1, 1) := by decide +kernel
theorem dL_law_1021 : decode cL_law 1021 = .ok (.invokevirtual 134, 3) := by decide +kernel
theorem dL_law_1024 : decode cL_law 1024 = .ok (.aload_n 2, 1) := by decide +kernel
theorem dL_law_1025 : decode cL_law 1025 = .ok (.invokevirtual 137, 3) := by decide +kernel
theorem dL_law_1028 : decode cL_law 1028 = .ok (.if_icmp .eq 414, 3) := by decide +kernel
theorem dL_law_1031 : decode cL_law 1031 = .ok (.iconst 0, 1) := by decide +kernel
theorem dL_law_1032 : decode cL_law 1032 = .ok (.ireturn, 1) := by decide +kernel
theorem dL_law_1033 : decode cL_law 1033 = .ok (.aload_n 1, 1) := by decide +kernel
theorem dL_law_1034 : decode cL_law 1034 = .ok (.aload_n 0, 1) := by decide +kernel
theorem dL_law_1035 : decode cL_law 1035 = .ok (.iload_n 3, 1) := by decide +kernel
theorem dL_law_1036 : decode cL_law 1036 = .ok (.iconst 1, 1) := by decide +kernel
theorem dL_law_1037 : decode cL_law 1037 = .ok (.iadd, 1) := by decide +kernel
theorem dL_law_1038 : decode cL_law 1038 = .ok (.iaload, 1) := by decide +kernel
theorem dL_law_1039 : decode cL_law 1039 = .ok (.aload_n 0, 1) := by decide +kernel
theorem dL_law_1040 : decode cL_law 1040 = .ok (.iload_n 3, 1) := by decide +kernel
theorem dL_law_1041 : decode cL_law 1041 = .ok (.iconst 2, 1) := by decide +kernel
theorem dL_law_1042 : decode cL_law 1042 = .ok (.iadd, 1) := by decide +kernel
theorem dL_law_1043 : decode cL_law 1043 = .ok (.iaload, 1) := by decide +kernel
theorem dL_law_1044 : decode cL_law 1044 = .ok (.invokevirtual 138, 3) := by decide +kernel
theorem dL_law_1047 : decode cL_law 1047 = .ok (.aload_n 2, 1) := by decide +kernel
theorem dL_law_1048 : decode cL_law 1048 = .ok (.aload_n 0, 1) := by decide +kernel
theorem dL_law_1049 : decode cL_law 1049 = .ok (.iload_n 3, 1) := by decide +kernel
theorem dL_law_1050 : decode cL_law 1050 = .ok (.iconst 1, 1) := by decide +kernel
theorem dL_law_1051 : decode cL_law 1051 = .ok (.iadd, 1) := by decide +kernel
theorem dL_law_1052 : decode cL_law 1052 = .ok (.iaload, 1) := by decide +kernel
theorem dL_law_1053 : decode cL_law 1053 = .ok (.aload_n 0, 1) := by decide +kernel
theorem dL_law_1054 : decode cL_law 1054 = .ok (.iload_n 3, 1) := by decide +kernel
theorem dL_law_1055 : decode cL_law 1055 = .ok (.iconst 2, 1) := by decide +kernel
theorem dL_law_1056 : decode cL_law 1056 = .ok (.iadd, 1) := by decide +kernel
theorem dL_law_1057 : decode cL_law 1057 = .ok (.iaload, 1) := by decide +kernel
theorem dL_law_1058 : decode cL_law 1058 = .ok (.invokevirtual 141, 3) := by decide +kernel
theorem dL_law_1061 : decode cL_law 1061 = .ok (.if_icmp .eq 381, 3) := by decide +kernel
theorem dL_law_1064 : decode cL_law 1064 = .ok (.iconst 0, 1) := by decide +kernel
theorem dL_law_1065 : decode cL_law 1065 = .ok (.ireturn, 1) := by decide +kernel
theorem dL_law_1066 : decode cL_law 1066 = .ok (.aload_n 1, 1) := by decide +kernel
theorem dL_law_1067 : decode cL_law 1067 = .ok (.aload_n 0, 1) := by decide +kernel
theorem dL_law_1068 : decode cL_law 1068 = .ok (.iload_n 3, 1) := by decide +kernel
theorem dL_law_1069 : decode cL_law 1069 = .ok (.iconst 1, 1) := by decide +kernel
theorem dL_law_1070 : decode cL_law 1070 = .ok (.iadd, 1) := by decide +kernel
theorem dL_law_1071 : decode cL_law 1071 = .ok (.iaload, 1) := by decide +kernel
theorem dL_law_1072 : decode cL_law 1072 = .ok (.invokevirtual 142, 3) := by decide +kernel
theorem dL_law_1075 : decode cL_law 1075 = .ok (.aload_n 2, 1) := by decide +kernel
theorem dL_law_1076 : decode cL_law 1076 = .ok (.aload_n 0, 1) := by decide +kernel
theorem dL_law_1077 : decode cL_law 1077 = .ok (.iload_n 3, 1) := by decide +kernel
theorem dL_law_1078 : decode cL_law 1078 = .ok (.iconst 1, 1) := by decide +kernel
theorem dL_law_1079 : decode cL_law 1079 = .ok (.iadd, 1) := by decide +kernel
theorem dL_law_1080 : decode cL_law 1080 = .ok (.iaload, 1) := by decide +kernel
theorem dL_law_1081 : decode cL_law 1081 = .ok (.invokevirtual 145, 3) := by decide +kernel
theorem dL_law_1084 : decode cL_law 1084 = .ok (.if_icmp .eq 358, 3) := by decide +kernel
theorem dL_law_1087 : decode cL_law 1087 = .ok (.iconst 0, 1) := by decide +kernel
theorem dL_law_1088 : decode cL_law 1088 = .ok (.ireturn, 1) := by decide +kernel
theorem dL_law_1089 : decode cL_law 1089 = .ok (.aload_n 1, 1) := by decide +kernel
theorem dL_law_1090 : decode cL_law 1090 = .ok (.aload_n 0, 1) := by decide +kernel
theorem dL_law_1091 : decode cL_law 1091 = .ok (.iload_n 3, 1) := by decide +kernel
theorem dL_law_1092 : decode cL_law 1092 = .ok (.iconst 1, 1) := by decide +kernel
theorem dL_law_1093 : decode cL_law 1093 = .ok (.iadd, 1) := by decide +kernel
theorem dL_law_1094 : decode cL_law 1094 = .ok (.iaload, 1) := by decide +kernel
theorem dL_law_1095 : decode cL_law 1095 = .ok (.aload_n 0, 1) := by decide +kernel
theorem dL_law_1096 : decode cL_law 1096 = .ok (.iload_n 3, 1) := by decide +kernel
theorem dL_law_1097 : decode cL_law 1097 = .ok (.iconst 2, 1) := by decide +kernel
theorem dL_law_1098 : decode cL_law 1098 = .ok (.iadd, 1) := by decide +kernel
theorem dL_law_1099 : decode cL_law 1099 = .ok (.iaload, 1) := by decide +kernel
theorem dL_law_1100 : decode cL_law 1100 = .ok (.invokevirtual 146, 3) := by decide +kernel
theorem dL_law_1103 : decode cL_law 1103 = .ok (.aload_n 2, 1) := by decide +kernel
theorem dL_law_1104 : decode cL_law 1104 = .ok (.aload_n 0, 1) := by decide +kernel
theorem dL_law_1105 : decode cL_law 1105 = .ok (.iload_n 3, 1) := by decide +kernel
theorem dL_law_1106 : decode cL_law 1106 = .ok (.iconst 1, 1) := by decide +kernel
theorem dL_law_1107 : decode cL_law 1107 = .ok (.iadd, 1) := by decide +kernel
theorem dL_law_1108 : decode cL_law 1108 = .ok (.iaload, 1) := by decide +kernel
theorem dL_law_1109 : decode cL_law 1109 = .ok (.aload_n 0, 1) := by decide +kernel
theorem dL_law_1110 : decode cL_law 1110 = .ok (.iload_n 3, 1) := by decide +kernel
theorem dL_law_1111 : decode cL_law 1111 = .ok (.iconst 2, 1) := by decide +kernel
theorem dL_law_1112 : decode cL_law 1112 = .ok (.iadd, 1) := by decide +kernel
theorem dL_law_1113 : decode cL_law 1113 = .ok (.iaload, 1) := by decide +kernel
theorem dL_law_1114 : decode cL_law 1114 = .ok (.invokevirtual 149, 3) := by decide +kernel
theorem dL_law_1117 : decode cL_law 1117 = .ok (.if_icmp .eq 325, 3) := by decide +kernel
theorem dL_law_1120 : decode cL_law 1120 = .ok (.iconst 0, 1) := by decide +kernel
theorem dL_law_1121 : decode cL_law 1121 = .ok (.ireturn, 1) := by decide +kernel
theorem dL_law_1122 : decode cL_law 1122 = .ok (.aload_n 1, 1) := by decide +kernel
theorem dL_law_1123 : decode cL_law 1123 = .ok (.aload_n 0, 1) := by decide +kernel
theorem dL_law_1124 : decode cL_law 1124 = .ok (.iload_n 3, 1) := by decide +kernel
theorem dL_law_1125 : decode cL_law 1125 = .ok (.iconst 1, 1) := by decide +kernel
theorem dL_law_1126 : decode cL_law 1126 = .ok (.iadd, 1) := by decide +kernel
theorem dL_law_1127 : decode cL_law 1127 = .ok (.iaload, 1) := by decide +kernel
theorem dL_law_1128 : decode cL_law 1128 = .ok (.aload_n 0, 1) := by decide +kernel
theorem dL_law_1129 : decode cL_law 1129 = .ok (.iload_n 3, 1) := by decide +kernel
theorem dL_law_1130 : decode cL_law 1130 = .ok (.iconst 2, 1) := by decide +kernel
theorem dL_law_1131 : decode cL_law 1131 = .ok (.iadd, 1) := by decide +kernel
theorem dL_law_1132 : decode cL_law 1132 = .ok (.iaload, 1) := by decide +kernel
theorem dL_law_1133 : decode cL_law 1133 = .ok (.invokevirtual 150, 3) := by decide +kernel
theorem dL_law_1136 : decode cL_law 1136 = .ok (.aload_n 2, 1) := by decide +kernel
theorem dL_law_1137 : decode cL_law 1137 = .ok (.aload_n 0, 1) := by decide +kernel
theorem dL_law_1138 : decode cL_law 1138 = .ok (.iload_n 3, 1) := by decide +kernel
theorem dL_law_1139 : decode cL_law 1139 = .ok (.iconst 1, 1) := by decide +kernel
theorem dL_law_1140 : decode cL_law 1140 = .ok (.iadd, 1) := by decide +kernel
theorem dL_law_1141 : decode cL_law 1141 = .ok (.iaload, 1) := by decide +kernel
theorem dL_law_1142 : decode cL_law 1142 = .ok (.aload_n 0, 1) := by decide +kernel
theorem dL_law_1143 : decode cL_law 1143 = .ok (.iload_n 3, 1) := by decide +kernel
theorem dL_law_1144 : decode cL_law 1144 = .ok (.iconst 2, 1) := by decide +kernel
theorem dL_law_1145 : decode cL_law 1145 = .ok (.iadd, 1) := by decide +kernel
theorem dL_law_1146 : decode cL_law 1146 = .ok (.iaload, 1) := by decide +kernel
theorem dL_law_1147 : decode cL_law 1147 = .ok (.invokevirtual 153, 3) := by decide +kernel
theorem dL_law_1150 : decode cL_law 1150 = .ok (.if_icmp .eq 292, 3) := by decide +kernel
theorem dL_law_1153 : decode cL_law 1153 = .ok (.iconst 0, 1) := by decide +kernel
theorem dL_law_1154 : decode cL_law 1154 = .ok (.ireturn, 1) := by decide +kernel
theorem dL_law_1155 : decode cL_law 1155 = .ok (.aload_n 1, 1) := by decide +kernel
theorem dL_law_1156 : decode cL_law 1156 = .ok (.aload_n 0, 1) := by decide +kernel
theorem dL_law_1157 : decode cL_law 1157 = .ok (.iload_n 3, 1) := by decide +kernel
theorem dL_law_1158 : decode cL_law 1158 = .ok (.iconst 1, 1) := by decide +kernel
theorem dL_law_1159 : decode cL_law 1159 = .ok (.iadd, 1) := by decide +kernel
theorem dL_law_1160 : decode cL_law 1160 = .ok (.iaload, 1) := by decide +kernel
theorem dL_law_1161 : decode cL_law 1161 = .ok (.invokevirtual 154, 3) := by decide +kernel
theorem dL_law_1164 : decode cL_law 1164 = .ok (.aload_n 2, 1) := by decide +kernel
theorem dL_law_1165 : decode cL_law 1165 = .ok (.aload_n 0, 1) := by decide +kernel
theorem dL_law_1166 : decode cL_law 1166 = .ok (.iload_n 3, 1) := by decide +kernel
theorem dL_law_1167 : decode cL_law 1167 = .ok (.iconst 1, 1) := by decide +kernel
theorem dL_law_1168 : decode cL_law 1168 = .ok (.iadd, 1) := by decide +kernel
theorem dL_law_1169 : decode cL_law 1169 = .ok (.iaload, 1) := by decide +kernel
theorem dL_law_1170 : decode cL_law 1170 = .ok (.invokevirtual 157, 3) := by decide +kernel
theorem dL_law_1173 : decode cL_law 1173 = .ok (.if_icmp .eq 269, 3) := by decide +kernel
theorem dL_law_1176 : decode cL_law 1176 = .ok (.iconst 0, 1) := by decide +kernel
theorem dL_law_1177 : decode cL_law 1177 = .ok (.ireturn, 1) := by decide +kernel
theorem dL_law_1178 : decode cL_law 1178 = .ok (.aload_n 1, 1) := by decide +kernel
theorem dL_law_1179 : decode cL_law 1179 = .ok (.aload_n 0, 1) := by decide +kernel
theorem dL_law_1180 : decode cL_law 1180 = .ok (.iload_n 3, 1) := by decide +kernel
theorem dL_law_1181 : decode cL_law 1181 = .ok (.iconst 1, 1) := by decide +kernel
theorem dL_law_1182 : decode cL_law 1182 = .ok (.iadd, 1) := by decide +kernel
theorem dL_law_1183 : decode cL_law 1183 = .ok (.iaload, 1) := by decide +kernel
theorem dL_law_1184 : decode cL_law 1184 = .ok (.invokevirtual 158, 3) := by decide +kernel
theorem dL_law_1187 : decode cL_law 1187 = .ok (.aload_n 2, 1) := by decide +kernel
theorem dL_law_1188 : decode cL_law 1188 = .ok (.aload_n 0, 1) := by decide +kernel
theorem dL_law_1189 : decode cL_law 1189 = .ok (.iload_n 3, 1) := by decide +kernel
theorem dL_law_1190 : decode cL_law 1190 = .ok (.iconst 1, 1) := by decide +kernel
theorem dL_law_1191 : decode cL_law 1191 = .ok (.iadd, 1) := by decide +kernel
theorem dL_law_1192 : decode cL_law 1192 = .ok (.iaload, 1) := by decide +kernel
theorem dL_law_1193 : decode cL_law 1193 = .ok (.invokevirtual 161, 3) := by decide +kernel
theorem dL_law_1196 : decode cL_law 1196 = .ok (.if_icmp .eq 246, 3) := by decide +kernel
theorem dL_law_1199 : decode cL_law 1199 = .ok (.iconst 0, 1) := by decide +kernel
theorem dL_law_1200 : decode cL_law 1200 = .ok (.ireturn, 1) := by decide +kernel
theorem dL_law_1201 : decode cL_law 1201 = .ok (.aload_n 1, 1) := by decide +kernel
theorem dL_law_1202 : decode cL_law 1202 = .ok (.aload_n 0, 1) := by decide +kernel
theorem dL_law_1203 : decode cL_law 1203 = .ok (.iload_n 3, 1) := by decide +kernel
theorem dL_law_1204 : decode cL_law 1204 = .ok (.iconst 1, 1) := by decide +kernel
theorem dL_law_1205 : decode cL_law 1205 = .ok (.iadd, 1) := by decide +kernel
theorem dL_law_1206 : decode cL_law 1206 = .ok (.iaload, 1) := by decide +kernel
theorem dL_law_1207 : decode cL_law 1207 = .ok (.aload_n 0, 1) := by decide +kernel
theorem dL_law_1208 : decode cL_law 1208 = .ok (.iload_n 3, 1) := by decide +kernel
theorem dL_law_1209 : decode cL_law 1209 = .ok (.iconst 2, 1) := by decide +kernel
theorem dL_law_1210 : decode cL_law 1210 = .ok (.iadd, 1) := by decide +kernel
theorem dL_law_1211 : decode cL_law 1211 = .ok (.iaload, 1) := by decide +kernel
theorem dL_law_1212 : decode cL_law 1212 = .ok (.aload_n 0, 1) := by decide +kernel
theorem dL_law_1213 : decode cL_law 1213 = .ok (.iload_n 3, 1) := by decide +kernel
theorem dL_law_1214 : decode cL_law 1214 = .ok (.iconst 3, 1) := by decide +kernel
theorem dL_law_1215 : decode cL_law 1215 = .ok (.iadd, 1) := by decide +kernel
theorem dL_law_1216 : decode cL_law 1216 = .ok (.iaload, 1) := by decide +kernel
theorem dL_law_1217 : decode cL_law 1217 = .ok (.invokevirtual 162, 3) := by decide +kernel
theorem dL_law_1220 : decode cL_law 1220 = .ok (.aload_n 2, 1) := by decide +kernel
theorem dL_law_1221 : decode cL_law 1221 = .ok (.aload_n 0, 1) := by decide +kernel
theorem dL_law_1222 : decode cL_law 1222 = .ok (.iload_n 3, 1) := by decide +kernel
theorem dL_law_1223 : decode cL_law 1223 = .ok (.iconst 1, 1) := by decide +kernel
theorem dL_law_1224 : decode cL_law 1224 = .ok (.iadd, 1) := by decide +kernel
theorem dL_law_1225 : decode cL_law 1225 = .ok (.iaload, 1) := by decide +kernel
theorem dL_law_1226 : decode cL_law 1226 = .ok (.aload_n 0, 1) := by decide +kernel
theorem dL_law_1227 : decode cL_law 1227 = .ok (.iload_n 3, 1) := by decide +kernel
theorem dL_law_1228 : decode cL_law 1228 = .ok (.iconst 2, 1) := by decide +kernel
theorem dL_law_1229 : decode cL_law 1229 = .ok (.iadd, 1) := by decide +kernel
theorem dL_law_1230 : decode cL_law 1230 = .ok (.iaload, 1) := by decide +kernel
theorem dL_law_1231 : decode cL_law 1231 = .ok (.aload_n 0, 1) := by decide +kernel
theorem dL_law_1232 : decode cL_law 1232 = .ok (.iload_n 3, 1) := by decide +kernel
theorem dL_law_1233 : decode cL_law 1233 = .ok (.iconst 3, 1) := by decide +kernel
theorem dL_law_1234 : decode cL_law 1234 = .ok (.iadd, 1) := by decide +kernel
theorem dL_law_1235 : decode cL_law 1235 = .ok (.iaload, 1) := by decide +kernel
theorem dL_law_1236 : decode cL_law 1236 = .ok (.invokevirtual 165, 3) := by decide +kernel
theorem dL_law_1239 : decode cL_law 1239 = .ok (.if_icmp .eq 203, 3) := by decide +kernel
theorem dL_law_1242 : decode cL_law 1242 = .ok (.iconst 0, 1) := by decide +kernel
theorem dL_law_1243 : decode cL_law 1243 = .ok (.ireturn, 1) := by decide +kernel
theorem dL_law_1244 : decode cL_law 1244 = .ok (.aload_n 1, 1) := by decide +kernel
theorem dL_law_1245 : decode cL_law 1245 = .ok (.aload_n 0, 1) := by decide +kernel
theorem dL_law_1246 : decode cL_law 1246 = .ok (.iload_n 3, 1) := by decide +kernel
theorem dL_law_1247 : decode cL_law 1247 = .ok (.iconst 1, 1) := by decide +kernel
theorem dL_law_1248 : decode cL_law 1248 = .ok (.iadd, 1) := by decide +kernel
theorem dL_law_1249 : decode cL_law 1249 = .ok (.iaload, 1) := by decide +kernel
theorem dL_law_1250 : decode cL_law 1250 = .ok (.invokevirtual 166, 3) := by decide +kernel
theorem dL_law_1253 : decode cL_law 1253 = .ok (.aload_n 2, 1) := by decide +kernel
theorem dL_law_1254 : decode cL_law 1254 = .ok (.aload_n 0, 1) := by decide +kernel
theorem dL_law_1255 : decode cL_law 1255 = .ok (.iload_n 3, 1) := by decide +kernel
theorem dL_law_1256 : decode cL_law 1256 = .ok (.iconst 1, 1) := by decide +kernel
theorem dL_law_1257 : decode cL_law 1257 = .ok (.iadd, 1) := by decide +kernel
theorem dL_law_1258 : decode cL_law 1258 = .ok (.iaload, 1) := by decide +kernel
theorem dL_law_1259 : decode cL_law 1259 = .ok (.invokevirtual 170, 3) := by decide +kernel
theorem dL_law_1262 : decode cL_law 1262 = .ok (.lcmp, 1) := by decide +kernel
theorem dL_law_1263 : decode cL_law 1263 = .ok (.ifCond .eq 179, 3) := by decide +kernel
theorem dL_law_1266 : decode cL_law 1266 = .ok (.iconst 0, 1) := by decide +kernel
theorem dL_law_1267 : decode cL_law 1267 = .ok (.ireturn, 1) := by decide +kernel
theorem dL_law_1268 : decode cL_law 1268 = .ok (.aload_n 1, 1) := by decide +kernel
theorem dL_law_1269 : decode cL_law 1269 = .ok (.aload_n 0, 1) := by decide +kernel
theorem dL_law_1270 : decode cL_law 1270 = .ok (.iload_n 3, 1) := by decide +kernel
theorem dL_law_1271 : decode cL_law 1271 = .ok (.iconst 1, 1) := by decide +kernel
theorem dL_law_1272 : decode cL_law 1272 = .ok (.iadd, 1) := by decide +kernel
theorem dL_law_1273 : decode cL_law 1273 = .ok (.iaload, 1) := by decide +kernel
theorem dL_law_1274 : decode cL_law 1274 = .ok (.invokevirtual 171, 3) := by decide +kernel
theorem dL_law_1277 : decode cL_law 1277 = .ok (.aload_n 2, 1) := by decide +kernel
theorem dL_law_1278 : decode cL_law 1278 = .ok (.aload_n 0, 1) := by decide +kernel
theorem dL_law_1279 : decode cL_law 1279 = .ok (.iload_n 3, 1) := by decide +kernel
theorem dL_law_1280 : decode cL_law 1280 = .ok (.iconst 1, 1) := by decide +kernel
theorem dL_law_1281 : decode cL_law 1281 = .ok (.iadd, 1) := by decide +kernel
theorem dL_law_1282 : decode cL_law 1282 = .ok (.iaload, 1) := by decide +kernel
theorem dL_law_1283 : decode cL_law 1283 = .ok (.invokevirtual 174, 3) := by decide +kernel
theorem dL_law_1286 : decode cL_law 1286 = .ok (.if_icmp .eq 156, 3) := by decide +kernel
theorem dL_law_1289 : decode cL_law 1289 = .ok (.iconst 0, 1) := by decide +kernel
theorem dL_law_1290 : decode cL_law 1290 = .ok (.ireturn, 1) := by decide +kernel
theorem dL_law_1291 : decode cL_law 1291 = .ok (.aload_n 1, 1) := by decide +kernel
theorem dL_law_1292 : decode cL_law 1292 = .ok (.aload_n 0, 1) := by decide +kernel
theorem dL_law_1293 : decode cL_law 1293 = .ok (.iload_n 3, 1) := by decide +kernel
theorem dL_law_1294 : decode cL_law 1294 = .ok (.iconst 1, 1) := by decide +kernel
theorem dL_law_1295 : decode cL_law 1295 = .ok (.iadd, 1) := by decide +kernel
theorem dL_law_1296 : decode cL_law 1296 = .ok (.iaload, 1) := by decide +kernel
theorem dL_law_1297 : decode cL_law 1297 = .ok (.invokevirtual 175, 3) := by decide +kernel
theorem dL_law_1300 : decode cL_law 1300 = .ok (.aload_n 2, 1) := by decide +kernel
theorem dL_law_1301 : decode cL_law 1301 = .ok (.aload_n 0, 1) := by decide +kernel
theorem dL_law_1302 : decode cL_law 1302 = .ok (.iload_n 3, 1) := by decide +kernel
theorem dL_law_1303 : decode cL_law 1303 = .ok (.iconst 1, 1) := by decide +kernel
theorem dL_law_1304 : decode cL_law 1304 = .ok (.iadd, 1) := by decide +kernel
theorem dL_law_1305 : decode cL_law 1305 = .ok (.iaload, 1) := by decide +kernel
theorem dL_law_1306 : decode cL_law 1306 = .ok (.invokevirtual 178, 3) := by decide +kernel
theorem dL_law_1309 : decode cL_law 1309 = .ok (.if_icmp .eq 133, 3) := by decide +kernel
theorem dL_law_1312 : decode cL_law 1312 = .ok (.iconst 0, 1) := by decide +kernel
theorem dL_law_1313 : decode cL_law 1313 = .ok (.ireturn, 1) := by decide +kernel
theorem dL_law_1314 : decode cL_law 1314 = .ok (.aload_n 1, 1) := by decide +kernel
theorem dL_law_1315 : decode cL_law 1315 = .ok (.aload_n 0, 1) := by decide +kernel
theorem dL_law_1316 : decode cL_law 1316 = .ok (.iload_n 3, 1) := by decide +kernel
theorem dL_law_1317 : decode cL_law 1317 = .ok (.iconst 1, 1) := by decide +kernel
theorem dL_law_1318 : decode cL_law 1318 = .ok (.iadd, 1) := by decide +kernel
theorem dL_law_1319 : decode cL_law 1319 = .ok (.iaload, 1) := by decide +kernel
theorem dL_law_1320 : decode cL_law 1320 = .ok (.invokevirtual 179, 3) := by decide +kernel
theorem dL_law_1323 : decode cL_law 1323 = .ok (.aload_n 2, 1) := by decide +kernel
theorem dL_law_1324 : decode cL_law 1324 = .ok (.aload_n 0, 1) := by decide +kernel
theorem dL_law_1325 : decode cL_law 1325 = .ok (.iload_n 3, 1) := by decide +kernel
theorem dL_law_1326 : decode cL_law 1326 = .ok (.iconst 1, 1) := by decide +kernel
theorem dL_law_1327 : decode cL_law 1327 = .ok (.iadd, 1) := by decide +kernel
theorem dL_law_1328 : decode cL_law 1328 = .ok (.iaload, 1) := by decide +kernel
theorem dL_law_1329 : decode cL_law 1329 = .ok (.invokevirtual 182, 3) := by decide +kernel
theorem dL_law_1332 : decode cL_law 1332 = .ok (.if_icmp .eq 110, 3) := by decide +kernel
theorem dL_law_1335 : decode cL_law 1335 = .ok (.iconst 0, 1) := by decide +kernel
theorem dL_law_1336 : decode cL_law 1336 = .ok (.ireturn, 1) := by decide +kernel
theorem dL_law_1337 : decode cL_law 1337 = .ok (.aload_n 1, 1) := by decide +kernel
theorem dL_law_1338 : decode cL_law 1338 = .ok (.invokevirtual 183, 3) := by decide +kernel
theorem dL_law_1341 : decode cL_law 1341 = .ok (.aload_n 2, 1) := by decide +kernel
theorem dL_law_1342 : decode cL_law 1342 = .ok (.invokevirtual 186, 3) := by decide +kernel
theorem dL_law_1345 : decode cL_law 1345 = .ok (.if_icmp .eq 97, 3) := by decide +kernel
theorem dL_law_1348 : decode cL_law 1348 = .ok (.iconst 0, 1) := by decide +kernel
theorem dL_law_1349 : decode cL_law 1349 = .ok (.ireturn, 1) := by decide +kernel
theorem dL_law_1350 : decode cL_law 1350 = .ok (.aload_n 1, 1) := by decide +kernel
theorem dL_law_1351 : decode cL_law 1351 = .ok (.aload_n 0, 1) := by decide +kernel
theorem dL_law_1352 : decode cL_law 1352 = .ok (.iload_n 3, 1) := by decide +kernel
theorem dL_law_1353 : decode cL_law 1353 = .ok (.iconst 1, 1) := by decide +kernel
theorem dL_law_1354 : decode cL_law 1354 = .ok (.iadd, 1) := by decide +kernel
theorem dL_law_1355 : decode cL_law 1355 = .ok (.iaload, 1) := by decide +kernel
theorem dL_law_1356 : decode cL_law 1356 = .ok (.aload_n 0, 1) := by decide +kernel
theorem dL_law_1357 : decode cL_law 1357 = .ok (.iload_n 3, 1) := by decide +kernel
theorem dL_law_1358 : decode cL_law 1358 = .ok (.iconst 2, 1) := by decide +kernel
theorem dL_law_1359 : decode cL_law 1359 = .ok (.iadd, 1) := by decide +kernel
theorem dL_law_1360 : decode cL_law 1360 = .ok (.iaload, 1) := by decide +kernel
theorem dL_law_1361 : decode cL_law 1361 = .ok (.aload_n 0, 1) := by decide +kernel
theorem dL_law_1362 : decode cL_law 1362 = .ok (.iload_n 3, 1) := by decide +kernel
theorem dL_law_1363 : decode cL_law 1363 = .ok (.iconst 3, 1) := by decide +kernel
theorem dL_law_1364 : decode cL_law 1364 = .ok (.iadd, 1) := by decide +kernel
theorem dL_law_1365 : decode cL_law 1365 = .ok (.iaload, 1) := by decide +kernel
theorem dL_law_1366 : decode cL_law 1366 = .ok (.invokevirtual 187, 3) := by decide +kernel
theorem dL_law_1369 : decode cL_law 1369 = .ok (.aload_n 2, 1) := by decide +kernel
theorem dL_law_1370 : decode cL_law 1370 = .ok (.aload_n 0, 1) := by decide +kernel
theorem dL_law_1371 : decode cL_law 1371 = .ok (.iload_n 3, 1) := by decide +kernel
theorem dL_law_1372 : decode cL_law 1372 = .ok (.iconst 1, 1) := by decide +kernel
theorem dL_law_1373 : decode cL_law 1373 = .ok (.iadd, 1) := by decide +kernel
theorem dL_law_1374 : decode cL_law 1374 = .ok (.iaload, 1) := by decide +kernel
theorem dL_law_1375 : decode cL_law 1375 = .ok (.aload_n 0, 1) := by decide +kernel
theorem dL_law_1376 : decode cL_law 1376 = .ok (.iload_n 3, 1) := by decide +kernel
theorem dL_law_1377 : decode cL_law 1377 = .ok (.iconst 2, 1) := by decide +kernel
theorem dL_law_1378 : decode cL_law 1378 = .ok (.iadd, 1) := by decide +kernel
theorem dL_law_1379 : decode cL_law 1379 = .ok (.iaload, 1) := by decide +kernel
theorem dL_law_1380 : decode cL_law 1380 = .ok (.aload_n 0, 1) := by decide +kernel
theorem dL_law_1381 : decode cL_law 1381 = .ok (.iload_n 3, 1) := by decide +kernel
theorem dL_law_1382 : decode cL_law 1382 = .ok (.iconst 3, 1) := by decide +kernel
theorem dL_law_1383 : decode cL_law 1383 = .ok (.iadd, 1) := by decide +kernel
theorem dL_law_1384 : decode cL_law 1384 = .ok (.iaload, 1) := by decide +kernel
theorem dL_law_1385 : decode cL_law 1385 = .ok (.invokevirtual 190, 3) := by decide +kernel
theorem dL_law_1388 : decode cL_law 1388 = .ok (.if_icmp .eq 54, 3) := by decide +kernel
theorem dL_law_1391 : decode cL_law 1391 = .ok (.iconst 0, 1) := by decide +kernel
theorem dL_law_1392 : decode cL_law 1392 = .ok (.ireturn, 1) := by decide +kernel
theorem dL_law_1393 : decode cL_law 1393 = .ok (.aload_n 1, 1) := by decide +kernel
theorem dL_law_1394 : decode cL_law 1394 = .ok (.invokevirtual 191, 3) := by decide +kernel
theorem dL_law_1397 : decode cL_law 1397 = .ok (.aload_n 2, 1) := by decide +kernel
theorem dL_law_1398 : decode cL_law 1398 = .ok (.invokevirtual 194, 3) := by decide +kernel
theorem dL_law_1401 : decode cL_law 1401 = .ok (.if_icmp .eq 41, 3) := by decide +kernel
theorem dL_law_1404 : decode cL_law 1404 = .ok (.iconst 0, 1) := by decide +kernel
theorem dL_law_1405 : decode cL_law 1405 = .ok (.ireturn, 1) := by decide +kernel
theorem dL_law_1406 : decode cL_law 1406 = .ok (.aload_n 1, 1) := by decide +kernel
theorem dL_law_1407 : decode cL_law 1407 = .ok (.invokevirtual 195, 3) := by decide +kernel
theorem dL_law_1410 : decode cL_law 1410 = .ok (.aload_n 2, 1) := by decide +kernel
theorem dL_law_1411 : decode cL_law 1411 = .ok (.invokevirtual 198, 3) := by decide +kernel
theorem dL_law_1414 : decode cL_law 1414 = .ok (.if_icmp .eq 28, 3) := by decide +kernel
theorem dL_law_1417 : decode cL_law 1417 = .ok (.iconst 0, 1) := by decide +kernel
theorem dL_law_1418 : decode cL_law 1418 = .ok (.ireturn, 1) := by decide +kernel
theorem dL_law_1419 : decode cL_law 1419 = .ok (.aload_n 1, 1) := by decide +kernel
theorem dL_law_1420 : decode cL_law 1420 = .ok (.aload_n 0, 1) := by decide +kernel
theorem dL_law_1421 : decode cL_law 1421 = .ok (.iload_n 3, 1) := by decide +kernel
theorem dL_law_1422 : decode cL_law 1422 = .ok (.iconst 1, 1) := by decide +kernel
theorem dL_law_1423 : decode cL_law 1423 = .ok (.iadd, 1) := by decide +kernel
theorem dL_law_1424 : decode cL_law 1424 = .ok (.iaload, 1) := by decide +kernel
theorem dL_law_1425 : decode cL_law 1425 = .ok (.invokevirtual 199, 3) := by decide +kernel
theorem dL_law_1428 : decode cL_law 1428 = .ok (.aload_n 2, 1) := by decide +kernel
theorem dL_law_1429 : decode cL_law 1429 = .ok (.aload_n 0, 1) := by decide +kernel
theorem dL_law_1430 : decode cL_law 1430 = .ok (.iload_n 3, 1) := by decide +kernel
theorem dL_law_1431 : decode cL_law 1431 = .ok (.iconst 1, 1) := by decide +kernel
theorem dL_law_1432 : decode cL_law 1432 = .ok (.iadd, 1) := by decide +kernel
theorem dL_law_1433 : decode cL_law 1433 = .ok (.iaload, 1) := by decide +kernel
theorem dL_law_1434 : decode cL_law 1434 = .ok (.invokevirtual 202, 3) := by decide +kernel
theorem dL_law_1437 : decode cL_law 1437 = .ok (.if_icmp .eq 5, 3) := by decide +kernel
theorem dL_law_1440 : decode cL_law 1440 = .ok (.iconst 0, 1) := by decide +kernel
theorem dL_law_1441 : decode cL_law 1441 = .ok (.ireturn, 1) := by decide +kernel
theorem dL_law_1442 : decode cL_law 1442 = .ok (.iinc 3 5, 3) := by decide +kernel
theorem dL_law_1445 : decode cL_law 1445 = .ok (.goto (-1427), 3) := by decide +kernel
theorem dL_law_1448 : decode cL_law 1448 = .ok (.iconst 1, 1) := by decide +kernel
theorem dL_law_1449 : decode cL_law 1449 = .ok (.ireturn, 1) := by decide +kernel
theorem zY (y : Int32) : ∃ Y : Int, zR Y ∧ zii Y = y := ⟨y.toInt, ⟨Int32.le_toInt y, Int32.toInt_lt y⟩, Int32.ofInt_toInt y⟩
/-- the law's frame with both sides made -/
def zLw (p : Program) (s : State) (m : MethodId) (meth : Method) (c : Code) (b L : Nat) (xs : Nat → Int32) (ad : Nat → Nat) (dC : Nat → ClassId) (dI : Nat → Nat → Nat) (cA : ClassId) (kC nC : Nat) : Prop := lw_At p s m meth c b L xs ∧ va_K (dC, dI) vwCl [(cA, .int)] s ∧ zInj ad ∧ (∀ q : Nat, q < zN → s.heap.size ≤ ad q) ∧ kC ≤ 600000 ∧ nC ≤ 7302250
section LAWCALL
variable {p : Program} {l : Launch} {e : Env} {s : State} {m : MethodId} {below : List Frame} {meth : Method} {c : Code} {b L : Nat} {xs : Nat → Int32} {ad : Nat → Nat} {dC : Nat → ClassId} {dI : Nat → Nat → Nat} {cA : ClassId} {kC nC : Nat}
theorem law_call (C1 : zLw p s m meth c b L xs ad dC dI cA kC nC) {k' : zMD} {ci n d' q idx pc : Nat} {as : List Value} {M : zMem} {Q' : Option Value → zMem → Prop} (hct : zCt k' d' (.ref q :: as) M Q') (hl : zML RL idx k'.1) (hm : zMV k' ci n) (hq : zob q = some ci) (hn : as.length = n) (hd' : Nat.ble d' 9 = true) (hdg : decode code pc = .ok (.invokevirtual idx, 3))
    {H : Heap} {locs : List Loc} {ls : Array Slot} {rest : List Value} (hP : va_P (dC, dI) vwCl (zws ad cA M) H) (hS : va_S (fun q : Nat => s.heap.size ≤ q) s.heap H locs) (hl4 : ls.size = 4) (hrest : (rest.map fun v => v.category).sum ≤ 8)
    (kk : ∀ r M' H' locs', Q' r M' → va_P (dC, dI) vwCl (zws ad cA M') H' → va_S (fun q : Nat => s.heap.size ≤ q) s.heap H' locs' → W p l e room_1 s m #[Value.ref b] below meth c H' locs' kC nC (lw_Z below #[Value.ref b] s) (F0 m (pc + 3) ls ((r.map (zrv ad)).toList ++ rest))) : W p l e room_1 s m #[Value.ref b] below meth c H locs kC nC (lw_Z below #[Value.ref b] s) (F0 m pc ls ((as.map (zrv ad)).reverse ++ Value.ref (ad q) :: rest)) := by
  have hd' := Nat.le_of_ble_eq_true hd'
  obtain ⟨⟨hx, hb, hr, hml, hown, hts0, hX, hbl, hlocks, hgv⟩, hK, hinj, hfr, hkC, hnC⟩ := C1
  have hts : ∀ w ∈ zt, w.before #[Value.ref b] s = true := fun w hw => hts0 w (List.mem_filter.mp hw).1
  have hnw : ∀ w ∈ zn, va_Nw w s := fun w hw => zn_of (A := #[Value.ref b]) hw (hts0 w (List.mem_filter.mp hw).1)
  obtain ⟨⟨hcode, hini, hcl, hmx⟩, hinst, hsel, hci⟩ := hm
  have hrecv : ∃ cell : Cell, H[ad q]? = some cell ∧ cell.vm.isStatics = false ∧ s.vm.findClass k'.1.cls = some cell.cls := by
    unfold zob at hq
    split at hq
    next o ho =>
      cases hq
      cases hv9 : vwCl[o.1]? with
      | none => rw [hv9] at hci; cases hci
      | some r =>
        rw [hv9] at hci
        obtain ⟨cell, c1, c2, c3⟩ := va_recv (a := ad q) hK hP hv9 (zws_at ho)
        exact ⟨cell, c1, c2, by rw [← Option.some.inj hci]; exact c3⟩
    next => cases hq
  have hroom : (zrm d').frames + 1 ≤ room_1.frames ∧ 8 + (k'.2.2.1 + 11) + (zrm d').locals ≤ room_1.locals := ⟨by show d' + 1 ≤ 11; omega, by show 8 + (k'.2.2.1 + 11) + 36 * d' ≤ 410; omega⟩
  have hpre : PreV s H k'.1.cls (ad q) (zPc ad dC dI cA (.ref q :: as) M) (as.map (zrv ad)) := ⟨zblind _ _ _ _ _ _, hrecv, fun U hU hW => ⟨rfl, by rw [hU]; exact hP, va_K.moved hW.alike hK, hinj, fun w hw => zn_warm hw hW (hnw w hw)⟩⟩
  have hrun : va_Run p l e room_1 s m #[Value.ref b] below meth c H locs kC nC 0 0 (F0 m pc ls ((as.map (zrv ad)).reverse ++ Value.ref (ad q) :: rest)) rest (zQ ad dC dI cA Q' (Value.ref (ad q) :: as.map (zrv ad)).toArray) (zA ad) := by
    rcases hl with hl | ⟨host, hl⟩
    · exact va_runV ⟨hx, hb, hml, hown, hts⟩ (hct l ad dC dI cA) ⟨callB_of n hts (zGood hcode) rfl rfl rfl (hts _ hini) (hts _ hl) hcl hroom, hts _ hinst, hts _ hsel⟩ hpre rfl (by rw [List.length_map]; exact hn) hl4 rfl (lv_room hrest) hdg ⟨hkC, hnC⟩
    · exact va_runVN ⟨hx, hb, hml, hown, hts⟩ (hct l ad dC dI cA) ⟨va_cnB n hts (zGood hcode) rfl rfl rfl (hnw _ hl) (hts _ hini) hcl hroom, hts _ hinst, hts _ hsel⟩ hpre rfl (by rw [List.length_map]; exact hn) hl4 rfl (lv_room hrest) hdg ⟨hkC, hnC⟩
  intro T hT X
  obtain ⟨v, st₀, t, T', L9, h0, X', hL9, e1, e2, ⟨⟨r, M', hv, hq', hP'⟩, hz, hk⟩, go⟩ := hrun T hT X
  cases hv
  rw [h0] at hz hk
  have hzf : ∀ q9 : Nat, zA ad q9 → s.heap.size ≤ q9 := fun q9 h9 => by
    obtain ⟨p9, h1, rfl⟩ := h9
    exact hfr p9 h1
  obtain ⟨t2, a1, b1⟩ := kk r M' T'.heap (locs ++ L9) hq' (by rw [e1]; exact hP')
    ⟨Nat.le_trans hS.1 (by rw [e1]; exact hz), fun q9 h1 h2 => by rw [e1, hk q9 (Nat.lt_of_lt_of_le h1 hS.1) (fun h3 => h2 (hzf q9 h3))]; exact hS.2.1 q9 h1 h2, fun q9 hq9 => by
      rcases List.mem_append.mp hq9 with h | h
      · exact hS.2.2 q9 h
      · exact hzf _ (hL9 q9 h)⟩ T' rfl X'
  exact ⟨t2, go t2 a1, b1⟩
theorem law_c1 (C1 : zLw p s m meth c b L xs ad dC dI cA kC nC) {T : Value → Prop} {kx km : zMD} {dc dm ci n q idx pc : Nat} {as bs : List Value} {M : zMem} (hp : zPair T kx km dc dm (.ref q :: as) bs M) (hl : zML RL idx kx.1) (hm : zMV kx ci n) (hq : zob q = some ci) (hn : as.length = n) (hd' : Nat.ble dc 9 = true) (hdg : decode code pc = .ok (.invokevirtual idx, 3))
    {H : Heap} {locs : List Loc} {ls : Array Slot} (hP : va_P (dC, dI) vwCl (zws ad cA M) H) (hS : va_S (fun q : Nat => s.heap.size ≤ q) s.heap H locs) (hl4 : ls.size = 4)
    (kk : ∀ v M' H' locs' Qm, T v → zCt km dm bs M' Qm → (∀ r2 M2, Qm r2 M2 → r2 = some v ∧ zInv M2) → va_P (dC, dI) vwCl (zws ad cA M') H' → va_S (fun q : Nat => s.heap.size ≤ q) s.heap H' locs' → W p l e room_1 s m #[Value.ref b] below meth c H' locs' kC nC (lw_Z below #[Value.ref b] s) (F0 m (pc + 3) ls [zrv ad v])) : W p l e room_1 s m #[Value.ref b] below meth c H locs kC nC (lw_Z below #[Value.ref b] s) (F0 m pc ls ((as.map (zrv ad)).reverse ++ [Value.ref (ad q)])) := by
  obtain ⟨Qc, hc, hh⟩ := hp
  refine law_call C1 hc hl hm hq hn hd' hdg hP hS hl4 (by decide) (fun r M' H' locs' hr hP' hS' => ?_)
  obtain ⟨v, hT, rfl, Qm, hcm, hfin⟩ := hh r M' hr
  exact kk v M' H' locs' Qm hT hcm hfin hP' hS'
theorem law_c2 (C1 : zLw p s m meth c b L xs ad dC dI cA kC nC) {km : zMD} {dm ci n q idx pc : Nat} {as : List Value} {M : zMem} {v v0 : Value} {Qm : Option Value → zMem → Prop} (hcm : zCt km dm (.ref q :: as) M Qm) (hfin : ∀ r2 M2, Qm r2 M2 → r2 = some v ∧ zInv M2) (hl : zML RL idx km.1) (hm : zMV km ci n) (hq : zob q = some ci) (hn : as.length = n) (hd' : Nat.ble dm 9 = true) (hdg : decode code pc = .ok (.invokevirtual idx, 3)) (hv0 : v0.category ≤ 8)
    {H : Heap} {locs : List Loc} {ls : Array Slot} (hP : va_P (dC, dI) vwCl (zws ad cA M) H) (hS : va_S (fun q : Nat => s.heap.size ≤ q) s.heap H locs) (hl4 : ls.size = 4)
    (kk : ∀ M' H' locs', zInv M' → va_P (dC, dI) vwCl (zws ad cA M') H' → va_S (fun q : Nat => s.heap.size ≤ q) s.heap H' locs' → W p l e room_1 s m #[Value.ref b] below meth c H' locs' kC nC (lw_Z below #[Value.ref b] s) (F0 m (pc + 3) ls [zrv ad v, v0])) : W p l e room_1 s m #[Value.ref b] below meth c H locs kC nC (lw_Z below #[Value.ref b] s) (F0 m pc ls ((as.map (zrv ad)).reverse ++ Value.ref (ad q) :: [v0])) :=
  law_call C1 hcm hl hm hq hn hd' hdg hP hS hl4 (by simpa using hv0) (fun r M' H' locs' hr hP' hS' => by
    obtain ⟨rfl, hI⟩ := hfin r M' hr
    exact kk M' H' locs' hI hP' hS')
end LAWCALL
theorem zand_63in (y : Int) : 0 ≤ zand y 63 ∧ zand y 63 ≤ 63 := by
  unfold zand
  have e1 : zii 63 = nI 63 := zii_n (n := 63) (by omega)
  have e2 : zii y = nI (zii y).toBitVec.toNat := by
    apply Int32.toBitVec_inj.1
    show (zii y).toBitVec = BitVec.ofNat 32 (zii y).toBitVec.toNat
    rw [BitVec.ofNat_toNat, BitVec.setWidth_eq]
  rw [e1, e2, bx_and, nI_toInt (Nat.lt_of_le_of_lt Nat.and_le_right (by omega))]
  have h9 := Nat.and_le_right (n := (zii y).toBitVec.toNat) (m := 63)
  omega
theorem lg_self (x : Int64) : lg_cmp x x = 0 := by
  unfold lg_cmp
  simp
set_option maxHeartbeats 4000000 in
set_option maxRecDepth 100000 in
/-- THE LAW'S LOOP -/
theorem law_loop {p : Program} {l : Launch} {e : Env} {s : State} {m : MethodId} {below : List Frame} {meth : Method} {c : Code} {b L : Nat} {xs : Nat → Int32} {ad : Nat → Nat} {dC : Nat → ClassId} {dI : Nat → Nat → Nat} {cA : ClassId} {kC nC : Nat} (hL : L ≤ 2560) (C1 : zLw p s m meth c b L xs ad dC dI cA kC nC) :
    ∀ (n i : Nat), L ≤ i + n → i ≤ 4000 → ∀ (M : zMem), zInv M → ∀ (H : Heap) (locs : List Loc), va_P (dC, dI) vwCl (zws ad cA M) H → va_S (fun q : Nat => s.heap.size ≤ q) s.heap H locs → ∀ (ls : Array Slot), lv_has ls 4 [(0, .ref b), (1, .ref (ad 36)), (2, .ref (ad 38)), (3, .int (nI i))] → W p l e room_1 s m #[Value.ref b] below meth c H locs kC nC (lw_Z below #[Value.ref b] s) (F0 m 18 ls []) := by
  obtain ⟨⟨hx, hb, hr, hml, hown, hts, hX, hbl, hlocks, hgv⟩, hK, hinj, hfr, hkC, hnC⟩ := id C1
  have hbA : ¬ (fun q : Nat => s.heap.size ≤ q) b := Nat.not_le.mpr hbl
  intro n
  induction n with
  | zero =>
    intro i h1 h2 M hI H locs hP hS ls hl
    have e5 : Int32.ofNat L - 5 = zii ((L : Int) - 5) := by rw [show Int32.ofNat L = zii (L : Int) from (zii_n (by omega)).symm]; exact (Int32.ofInt_sub (L : Int) 5).symm
    have ei : nI i = zii (i : Int) := (zii_n (by omega)).symm
    refine lv_iload_n hx hb dL_law_18 rfl (lv_at hl 3 rfl) ?_
    refine lv_aload_n hx hb dL_law_19 rfl (lv_at hl 0 rfl) ?_
    refine va_slen hx hb hX hbl hbA hS dL_law_20 ?_
    refine lv_iconst (v := 5) hx hb dL_law_21 (by decide) ?_
    refine lv_isub hx hb dL_law_22 ?_
    refine lv_icmp_gt (tgt := 1448) hx hb dL_law_23 (by decide) (fun c9 => ?_) (fun c9 => ?_)
    · refine lv_iconst (v := 1) hx hb dL_law_1448 (by decide) ?_
      refine va_forget (fun q hq => hS.2.2 q hq) ?_
      refine W.widen (k := 600000) (n := 7302250) hkC hnC ?_
      exact lw_ret hx hb hr hlocks dL_law_1449
    · exact absurd (by rw [e5, ei]; exact (zii_lt ⟨by omega, by omega⟩ ⟨by omega, by omega⟩).mpr (by omega)) c9
  | succ n ih =>
    intro i h1 h2 M hI H locs hP hS ls hl
    have e5 : Int32.ofNat L - 5 = zii ((L : Int) - 5) := by rw [show Int32.ofNat L = zii (L : Int) from (zii_n (by omega)).symm]; exact (Int32.ofInt_sub (L : Int) 5).symm
    have ei : nI i = zii (i : Int) := (zii_n (by omega)).symm
    refine lv_iload_n hx hb dL_law_18 rfl (lv_at hl 3 rfl) ?_
    refine lv_aload_n hx hb dL_law_19 rfl (lv_at hl 0 rfl) ?_
    refine va_slen hx hb hX hbl hbA hS dL_law_20 ?_
    refine lv_iconst (v := 5) hx hb dL_law_21 (by decide) ?_
    refine lv_isub hx hb dL_law_22 ?_
    refine lv_icmp_gt (tgt := 1448) hx hb dL_law_23 (by decide) (fun c9 => ?_) (fun c9 => ?_)
    · refine lv_iconst (v := 1) hx hb dL_law_1448 (by decide) ?_
      refine va_forget (fun q hq => hS.2.2 q hq) ?_
      refine W.widen (k := 600000) (n := 7302250) hkC hnC ?_
      exact lw_ret hx hb hr hlocks dL_law_1449
    have hlt : i + 5 ≤ L := by
      rcases Nat.lt_or_ge L (i + 5) with q | q
      · exact absurd (by rw [e5, ei]; exact (zii_lt ⟨by omega, by omega⟩ ⟨by omega, by omega⟩).mpr (by omega)) c9
      · exact q
    have f1 : nI i + 1 = nI (i + 1) := nI_add i 1
    have f2 : nI i + 2 = nI (i + 2) := nI_add i 2
    have f3 : nI i + 3 = nI (i + 3) := nI_add i 3
    have f4 : nI i + 4 = nI (i + 4) := nI_add i 4
    have f5 : nI i + 5 = nI (i + 5) := nI_add i 5
    obtain ⟨Y0, hY0, e0⟩ := zY (xs (nI i).toNatClampNeg)
    obtain ⟨Y1, hY1, e1⟩ := zY (xs (nI (i + 1)).toNatClampNeg)
    obtain ⟨Y2, hY2, e2⟩ := zY (xs (nI (i + 2)).toNatClampNeg)
    obtain ⟨Y3, hY3, e3⟩ := zY (xs (nI (i + 3)).toNatClampNeg)
    obtain ⟨Y4, hY4, e4⟩ := zY (xs (nI (i + 4)).toNatClampNeg)
    have nxt : ∀ (M2 : zMem) (H : Heap) (locs : List Loc), zInv M2 → va_P (dC, dI) vwCl (zws ad cA M2) H → va_S (fun q : Nat => s.heap.size ≤ q) s.heap H locs → W p l e room_1 s m #[Value.ref b] below meth c H locs kC nC (lw_Z below #[Value.ref b] s) (F0 m 1442 ls []) := by
      intro M2 H locs hI2 hP hS
      refine lv_iinc (v := nI (i + 5)) (lv' := [(3, .int (nI (i + 5))), (0, .ref b), (1, .ref (ad 36)), (2, .ref (ad 38))]) hx hb dL_law_1442 hl (k := 3) rfl (by rw [← f5]; rfl) (by decide) rfl (fun ls hl => ?_)
      refine lv_goto (tgt := 18) hx hb dL_law_1445 (by decide) ?_
      exact ih (i + 5) (by omega) (by omega) M2 hI2 H locs hP hS ls (lv_sub hl [1, 2, 3, 0] rfl)
    refine lv_aload_n hx hb dL_law_26 rfl (lv_at hl 0 rfl) ?_
    refine lv_iload_n hx hb dL_law_27 rfl (lv_at hl 3 rfl) ?_
    refine va_sld hx hb hX hbl hbA hS (vp_in_nI (n := i) (by omega) (by omega)) dL_law_28 ?_
    rw [← e0]
    refine lv_bipush (v := 63) hx hb dL_law_29 (by decide +kernel) ?_
    refine lv_iand hx hb dL_law_31 ?_
    rw [show zii Y0 &&& 63 = zii (zand Y0 63) from zii_of _]
    have hz := zand_63in Y0
    have hzt : (zii (zand Y0 63)).toInt = zand Y0 63 := zii_toInt ⟨by omega, by omega⟩
    generalize zand Y0 63 = Z at hz hzt ⊢
    rcases (by omega : Z = 0 ∨ Z = 1 ∨ Z = 2 ∨ Z = 3 ∨ Z = 4 ∨ Z = 5 ∨ Z = 6 ∨ Z = 7 ∨ Z = 8 ∨ Z = 9 ∨ Z = 10 ∨ Z = 11 ∨ Z = 12 ∨ Z = 13 ∨ Z = 14 ∨ Z = 15 ∨ Z = 16 ∨ Z = 17 ∨ Z = 18 ∨ Z = 19 ∨ Z = 20 ∨ Z = 21 ∨ Z = 22 ∨ Z = 23 ∨ Z = 24 ∨ Z = 25 ∨ Z = 26 ∨ Z = 27 ∨ Z = 28 ∨ Z = 29 ∨ Z = 30 ∨ Z = 31 ∨ Z = 32 ∨ Z = 33 ∨ Z = 34 ∨ Z = 35 ∨ Z = 36 ∨ Z = 37 ∨ Z = 38 ∨ Z = 39 ∨ Z = 40 ∨ Z = 41 ∨ Z = 42 ∨ Z = 43 ∨ Z = 44 ∨ Z = 45 ∨ (45 < Z)) with hsw | hsw | hsw | hsw | hsw | hsw | hsw | hsw | hsw | hsw | hsw | hsw | hsw | hsw | hsw | hsw | hsw | hsw | hsw | hsw | hsw | hsw | hsw | hsw | hsw | hsw | hsw | hsw | hsw | hsw | hsw | hsw | hsw | hsw | hsw | hsw | hsw | hsw | hsw | hsw | hsw | hsw | hsw | hsw | hsw | hsw | hsw
    · refine lv_tableIn (off := 200) (tgt := 232) hx hb dL_law_32 (by rw [hzt]; omega) (by rw [hzt]; omega) (by rw [hzt, hsw]; rfl) (by decide) ?_
      refine lv_aload_n hx hb dL_law_232 rfl (lv_at hl 1 rfl) ?_
      refine lv_aload_n hx hb dL_law_233 rfl (lv_at hl 0 rfl) ?_
      refine lv_iload_n hx hb dL_law_234 rfl (lv_at hl 3 rfl) ?_
      refine lv_iconst (v := 1) hx hb dL_law_235 (by decide) ?_
      refine lv_iadd hx hb dL_law_236 ?_
      rw [f1]
      refine va_sld hx hb hX hbl hbA hS (vp_in_nI (n := i + 1) (by omega) (by omega)) dL_law_237 ?_
      rw [← e1]
      refine law_c1 C1 (p_feed hI hY1) l_L_13 m_X9_feed rfl rfl (by decide) dL_law_238 hP hS hl.1 (fun v M1 H1 locs1 Qm hT hcm hfin hP hS => ?_)
      obtain ⟨x9, rfl⟩ := hT
      refine lv_aload_n hx hb dL_law_241 rfl (lv_at hl 2 rfl) ?_
      refine lv_aload_n hx hb dL_law_242 rfl (lv_at hl 0 rfl) ?_
      refine lv_iload_n hx hb dL_law_243 rfl (lv_at hl 3 rfl) ?_
      refine lv_iconst (v := 1) hx hb dL_law_244 (by decide) ?_
      refine lv_iadd hx hb dL_law_245 ?_
      rw [f1]
      refine va_sld hx hb hX hbl hbA hS (vp_in_nI (n := i + 1) (by omega) (by omega)) dL_law_246 ?_
      rw [← e1]
      refine law_c2 C1 hcm hfin l_L_17 m_X10_feed rfl rfl (by decide) dL_law_247 (Nat.le_of_ble_eq_true rfl) hP hS hl.1 (fun M2 H2 locs2 hI2 hP hS => ?_)
      exact lv_icmp_eq (tgt := 1442) hx hb dL_law_250 (by decide) (fun _ => nxt _ _ _ hI2 hP hS) (fun h9 => absurd rfl h9)
    · refine lv_tableIn (off := 223) (tgt := 255) hx hb dL_law_32 (by rw [hzt]; omega) (by rw [hzt]; omega) (by rw [hzt, hsw]; rfl) (by decide) ?_
      refine lv_aload_n hx hb dL_law_255 rfl (lv_at hl 1 rfl) ?_
      refine law_c1 C1 (p_house hI) l_L_18 m_X9_house rfl rfl (by decide) dL_law_256 hP hS hl.1 (fun v M1 H1 locs1 Qm hT hcm hfin hP hS => ?_)
      obtain ⟨x9, rfl⟩ := hT
      refine lv_aload_n hx hb dL_law_259 rfl (lv_at hl 2 rfl) ?_
      refine law_c2 C1 hcm hfin l_L_22 m_X10_house rfl rfl (by decide) dL_law_260 (Nat.le_of_ble_eq_true rfl) hP hS hl.1 (fun M2 H2 locs2 hI2 hP hS => ?_)
      exact lv_icmp_eq (tgt := 1442) hx hb dL_law_263 (by decide) (fun _ => nxt _ _ _ hI2 hP hS) (fun h9 => absurd rfl h9)
    · refine lv_tableIn (off := 236) (tgt := 268) hx hb dL_law_32 (by rw [hzt]; omega) (by rw [hzt]; omega) (by rw [hzt, hsw]; rfl) (by decide) ?_
      refine lv_aload_n hx hb dL_law_268 rfl (lv_at hl 1 rfl) ?_
      refine lv_aload_n hx hb dL_law_269 rfl (lv_at hl 0 rfl) ?_
      refine lv_iload_n hx hb dL_law_270 rfl (lv_at hl 3 rfl) ?_
      refine lv_iconst (v := 1) hx hb dL_law_271 (by decide) ?_
      refine lv_iadd hx hb dL_law_272 ?_
      rw [f1]
      refine va_sld hx hb hX hbl hbA hS (vp_in_nI (n := i + 1) (by omega) (by omega)) dL_law_273 ?_
      rw [← e1]
      refine lv_aload_n hx hb dL_law_274 rfl (lv_at hl 0 rfl) ?_
      refine lv_iload_n hx hb dL_law_275 rfl (lv_at hl 3 rfl) ?_
      refine lv_iconst (v := 2) hx hb dL_law_276 (by decide) ?_
      refine lv_iadd hx hb dL_law_277 ?_
      rw [f2]
      refine va_sld hx hb hX hbl hbA hS (vp_in_nI (n := i + 2) (by omega) (by omega)) dL_law_278 ?_
      rw [← e2]
      refine law_c1 C1 (p_guestOf hI hY1 hY2) l_L_23 m_X9_guestOf rfl rfl (by decide) dL_law_279 hP hS hl.1 (fun v M1 H1 locs1 Qm hT hcm hfin hP hS => ?_)
      obtain ⟨x9, rfl⟩ := hT
      refine lv_aload_n hx hb dL_law_282 rfl (lv_at hl 2 rfl) ?_
      refine lv_aload_n hx hb dL_law_283 rfl (lv_at hl 0 rfl) ?_
      refine lv_iload_n hx hb dL_law_284 rfl (lv_at hl 3 rfl) ?_
      refine lv_iconst (v := 1) hx hb dL_law_285 (by decide) ?_
      refine lv_iadd hx hb dL_law_286 ?_
      rw [f1]
      refine va_sld hx hb hX hbl hbA hS (vp_in_nI (n := i + 1) (by omega) (by omega)) dL_law_287 ?_
      rw [← e1]
      refine lv_aload_n hx hb dL_law_288 rfl (lv_at hl 0 rfl) ?_
      refine lv_iload_n hx hb dL_law_289 rfl (lv_at hl 3 rfl) ?_
      refine lv_iconst (v := 2) hx hb dL_law_290 (by decide) ?_
      refine lv_iadd hx hb dL_law_291 ?_
      rw [f2]
      refine va_sld hx hb hX hbl hbA hS (vp_in_nI (n := i + 2) (by omega) (by omega)) dL_law_292 ?_
      rw [← e2]
      refine law_c2 C1 hcm hfin l_L_27 m_X10_guestOf rfl rfl (by decide) dL_law_293 (Nat.le_of_ble_eq_true rfl) hP hS hl.1 (fun M2 H2 locs2 hI2 hP hS => ?_)
      exact lv_icmp_eq (tgt := 1442) hx hb dL_law_296 (by decide) (fun _ => nxt _ _ _ hI2 hP hS) (fun h9 => absurd rfl h9)
    · refine lv_tableIn (off := 269) (tgt := 301) hx hb dL_law_32 (by rw [hzt]; omega) (by rw [hzt]; omega) (by rw [hzt, hsw]; rfl) (by decide) ?_
      refine lv_aload_n hx hb dL_law_301 rfl (lv_at hl 1 rfl) ?_
      refine lv_aload_n hx hb dL_law_302 rfl (lv_at hl 0 rfl) ?_
      refine lv_iload_n hx hb dL_law_303 rfl (lv_at hl 3 rfl) ?_
      refine lv_iconst (v := 1) hx hb dL_law_304 (by decide) ?_
      refine lv_iadd hx hb dL_law_305 ?_
      rw [f1]
      refine va_sld hx hb hX hbl hbA hS (vp_in_nI (n := i + 1) (by omega) (by omega)) dL_law_306 ?_
      rw [← e1]
      refine lv_aload_n hx hb dL_law_307 rfl (lv_at hl 0 rfl) ?_
      refine lv_iload_n hx hb dL_law_308 rfl (lv_at hl 3 rfl) ?_
      refine lv_iconst (v := 2) hx hb dL_law_309 (by decide) ?_
      refine lv_iadd hx hb dL_law_310 ?_
      rw [f2]
      refine va_sld hx hb hX hbl hbA hS (vp_in_nI (n := i + 2) (by omega) (by omega)) dL_law_311 ?_
      rw [← e2]
      refine lv_aload_n hx hb dL_law_312 rfl (lv_at hl 0 rfl) ?_
      refine lv_iload_n hx hb dL_law_313 rfl (lv_at hl 3 rfl) ?_
      refine lv_iconst (v := 3) hx hb dL_law_314 (by decide) ?_
      refine lv_iadd hx hb dL_law_315 ?_
      rw [f3]
      refine va_sld hx hb hX hbl hbA hS (vp_in_nI (n := i + 3) (by omega) (by omega)) dL_law_316 ?_
      rw [← e3]
      refine law_c1 C1 (p_guest hI hY1 hY2 hY3) l_L_28 m_X9_guest rfl rfl (by decide) dL_law_317 hP hS hl.1 (fun v M1 H1 locs1 Qm hT hcm hfin hP hS => ?_)
      obtain ⟨x9, rfl⟩ := hT
      refine lv_aload_n hx hb dL_law_320 rfl (lv_at hl 2 rfl) ?_
      refine lv_aload_n hx hb dL_law_321 rfl (lv_at hl 0 rfl) ?_
      refine lv_iload_n hx hb dL_law_322 rfl (lv_at hl 3 rfl) ?_
      refine lv_iconst (v := 1) hx hb dL_law_323 (by decide) ?_
      refine lv_iadd hx hb dL_law_324 ?_
      rw [f1]
      refine va_sld hx hb hX hbl hbA hS (vp_in_nI (n := i + 1) (by omega) (by omega)) dL_law_325 ?_
      rw [← e1]
      refine lv_aload_n hx hb dL_law_326 rfl (lv_at hl 0 rfl) ?_
      refine lv_iload_n hx hb dL_law_327 rfl (lv_at hl 3 rfl) ?_
      refine lv_iconst (v := 2) hx hb dL_law_328 (by decide) ?_
      refine lv_iadd hx hb dL_law_329 ?_
      rw [f2]
      refine va_sld hx hb hX hbl hbA hS (vp_in_nI (n := i + 2) (by omega) (by omega)) dL_law_330 ?_
      rw [← e2]
      refine lv_aload_n hx hb dL_law_331 rfl (lv_at hl 0 rfl) ?_
      refine lv_iload_n hx hb dL_law_332 rfl (lv_at hl 3 rfl) ?_
      refine lv_iconst (v := 3) hx hb dL_law_333 (by decide) ?_
      refine lv_iadd hx hb dL_law_334 ?_
      rw [f3]
      refine va_sld hx hb hX hbl hbA hS (vp_in_nI (n := i + 3) (by omega) (by omega)) dL_law_335 ?_
      rw [← e3]
      refine law_c2 C1 hcm hfin l_L_32 m_X10_guest rfl rfl (by decide) dL_law_336 (Nat.le_of_ble_eq_true rfl) hP hS hl.1 (fun M2 H2 locs2 hI2 hP hS => ?_)
      exact lv_icmp_eq (tgt := 1442) hx hb dL_law_339 (by decide) (fun _ => nxt _ _ _ hI2 hP hS) (fun h9 => absurd rfl h9)
    · refine lv_tableIn (off := 312) (tgt := 344) hx hb dL_law_32 (by rw [hzt]; omega) (by rw [hzt]; omega) (by rw [hzt, hsw]; rfl) (by decide) ?_
      refine lv_aload_n hx hb dL_law_344 rfl (lv_at hl 1 rfl) ?_
      refine lv_aload_n hx hb dL_law_345 rfl (lv_at hl 0 rfl) ?_
      refine lv_iload_n hx hb dL_law_346 rfl (lv_at hl 3 rfl) ?_
      refine lv_iconst (v := 1) hx hb dL_law_347 (by decide) ?_
      refine lv_iadd hx hb dL_law_348 ?_
      rw [f1]
      refine va_sld hx hb hX hbl hbA hS (vp_in_nI (n := i + 1) (by omega) (by omega)) dL_law_349 ?_
      rw [← e1]
      refine law_c1 C1 (p_rises hI hY1) l_L_33 m_X9_rises rfl rfl (by decide) dL_law_350 hP hS hl.1 (fun v M1 H1 locs1 Qm hT hcm hfin hP hS => ?_)
      obtain ⟨x9, rfl⟩ := hT
      refine lv_aload_n hx hb dL_law_353 rfl (lv_at hl 2 rfl) ?_
      refine lv_aload_n hx hb dL_law_354 rfl (lv_at hl 0 rfl) ?_
      refine lv_iload_n hx hb dL_law_355 rfl (lv_at hl 3 rfl) ?_
      refine lv_iconst (v := 1) hx hb dL_law_356 (by decide) ?_
      refine lv_iadd hx hb dL_law_357 ?_
      rw [f1]
      refine va_sld hx hb hX hbl hbA hS (vp_in_nI (n := i + 1) (by omega) (by omega)) dL_law_358 ?_
      rw [← e1]
      refine law_c2 C1 hcm hfin l_L_36 m_X10_rises rfl rfl (by decide) dL_law_359 (Nat.le_of_ble_eq_true rfl) hP hS hl.1 (fun M2 H2 locs2 hI2 hP hS => ?_)
      exact lv_icmp_eq (tgt := 1442) hx hb dL_law_362 (by decide) (fun _ => nxt _ _ _ hI2 hP hS) (fun h9 => absurd rfl h9)
    · refine lv_tableIn (off := 335) (tgt := 367) hx hb dL_law_32 (by rw [hzt]; omega) (by rw [hzt]; omega) (by rw [hzt, hsw]; rfl) (by decide) ?_
      refine lv_aload_n hx hb dL_law_367 rfl (lv_at hl 1 rfl) ?_
      refine lv_aload_n hx hb dL_law_368 rfl (lv_at hl 0 rfl) ?_
      refine lv_iload_n hx hb dL_law_369 rfl (lv_at hl 3 rfl) ?_
      refine lv_iconst (v := 1) hx hb dL_law_370 (by decide) ?_
      refine lv_iadd hx hb dL_law_371 ?_
      rw [f1]
      refine va_sld hx hb hX hbl hbA hS (vp_in_nI (n := i + 1) (by omega) (by omega)) dL_law_372 ?_
      rw [← e1]
      refine law_c1 C1 (p_slips hI hY1) l_L_37 m_X9_slips rfl rfl (by decide) dL_law_373 hP hS hl.1 (fun v M1 H1 locs1 Qm hT hcm hfin hP hS => ?_)
      obtain ⟨x9, rfl⟩ := hT
      refine lv_aload_n hx hb dL_law_376 rfl (lv_at hl 2 rfl) ?_
      refine lv_aload_n hx hb dL_law_377 rfl (lv_at hl 0 rfl) ?_
      refine lv_iload_n hx hb dL_law_378 rfl (lv_at hl 3 rfl) ?_
      refine lv_iconst (v := 1) hx hb dL_law_379 (by decide) ?_
      refine lv_iadd hx hb dL_law_380 ?_
      rw [f1]
      refine va_sld hx hb hX hbl hbA hS (vp_in_nI (n := i + 1) (by omega) (by omega)) dL_law_381 ?_
      rw [← e1]
      refine law_c2 C1 hcm hfin l_L_40 m_X10_slips rfl rfl (by decide) dL_law_382 (Nat.le_of_ble_eq_true rfl) hP hS hl.1 (fun M2 H2 locs2 hI2 hP hS => ?_)
      exact lv_icmp_eq (tgt := 1442) hx hb dL_law_385 (by decide) (fun _ => nxt _ _ _ hI2 hP hS) (fun h9 => absurd rfl h9)
    · refine lv_tableIn (off := 358) (tgt := 390) hx hb dL_law_32 (by rw [hzt]; omega) (by rw [hzt]; omega) (by rw [hzt, hsw]; rfl) (by decide) ?_
      refine lv_aload_n hx hb dL_law_390 rfl (lv_at hl 1 rfl) ?_
      refine lv_aload_n hx hb dL_law_391 rfl (lv_at hl 0 rfl) ?_
      refine lv_iload_n hx hb dL_law_392 rfl (lv_at hl 3 rfl) ?_
      refine lv_iconst (v := 1) hx hb dL_law_393 (by decide) ?_
      refine lv_iadd hx hb dL_law_394 ?_
      rw [f1]
      refine va_sld hx hb hX hbl hbA hS (vp_in_nI (n := i + 1) (by omega) (by omega)) dL_law_395 ?_
      rw [← e1]
      refine law_c1 C1 (p_cups hI hY1) l_L_41 m_X9_cups rfl rfl (by decide) dL_law_396 hP hS hl.1 (fun v M1 H1 locs1 Qm hT hcm hfin hP hS => ?_)
      obtain ⟨x9, rfl⟩ := hT
      refine lv_aload_n hx hb dL_law_399 rfl (lv_at hl 2 rfl) ?_
      refine lv_aload_n hx hb dL_law_400 rfl (lv_at hl 0 rfl) ?_
      refine lv_iload_n hx hb dL_law_401 rfl (lv_at hl 3 rfl) ?_
      refine lv_iconst (v := 1) hx hb dL_law_402 (by decide) ?_
      refine lv_iadd hx hb dL_law_403 ?_
      rw [f1]
      refine va_sld hx hb hX hbl hbA hS (vp_in_nI (n := i + 1) (by omega) (by omega)) dL_law_404 ?_
      rw [← e1]
      refine law_c2 C1 hcm hfin l_L_44 m_X10_cups rfl rfl (by decide) dL_law_405 (Nat.le_of_ble_eq_true rfl) hP hS hl.1 (fun M2 H2 locs2 hI2 hP hS => ?_)
      exact lv_icmp_eq (tgt := 1442) hx hb dL_law_408 (by decide) (fun _ => nxt _ _ _ hI2 hP hS) (fun h9 => absurd rfl h9)
    · refine lv_tableIn (off := 381) (tgt := 413) hx hb dL_law_32 (by rw [hzt]; omega) (by rw [hzt]; omega) (by rw [hzt, hsw]; rfl) (by decide) ?_
      refine lv_aload_n hx hb dL_law_413 rfl (lv_at hl 1 rfl) ?_
      refine lv_aload_n hx hb dL_law_414 rfl (lv_at hl 0 rfl) ?_
      refine lv_iload_n hx hb dL_law_415 rfl (lv_at hl 3 rfl) ?_
      refine lv_iconst (v := 1) hx hb dL_law_416 (by decide) ?_
      refine lv_iadd hx hb dL_law_417 ?_
      rw [f1]
      refine va_sld hx hb hX hbl hbA hS (vp_in_nI (n := i + 1) (by omega) (by omega)) dL_law_418 ?_
      rw [← e1]
      refine law_c1 C1 (p_rule hI hY1) l_L_45 m_X9_rule rfl rfl (by decide) dL_law_419 hP hS hl.1 (fun v M1 H1 locs1 Qm hT hcm hfin hP hS => ?_)
      obtain ⟨x9, rfl⟩ := hT
      refine lv_aload_n hx hb dL_law_422 rfl (lv_at hl 2 rfl) ?_
      refine lv_aload_n hx hb dL_law_423 rfl (lv_at hl 0 rfl) ?_
      refine lv_iload_n hx hb dL_law_424 rfl (lv_at hl 3 rfl) ?_
      refine lv_iconst (v := 1) hx hb dL_law_425 (by decide) ?_
      refine lv_iadd hx hb dL_law_426 ?_
      rw [f1]
      refine va_sld hx hb hX hbl hbA hS (vp_in_nI (n := i + 1) (by omega) (by omega)) dL_law_427 ?_
      rw [← e1]
      refine law_c2 C1 hcm hfin l_L_48 m_X10_rule rfl rfl (by decide) dL_law_428 (Nat.le_of_ble_eq_true rfl) hP hS hl.1 (fun M2 H2 locs2 hI2 hP hS => ?_)
      exact lv_icmp_eq (tgt := 1442) hx hb dL_law_431 (by decide) (fun _ => nxt _ _ _ hI2 hP hS) (fun h9 => absurd rfl h9)
    · refine lv_tableIn (off := 404) (tgt := 436) hx hb dL_law_32 (by rw [hzt]; omega) (by rw [hzt]; omega) (by rw [hzt, hsw]; rfl) (by decide) ?_
      refine lv_aload_n hx hb dL_law_436 rfl (lv_at hl 1 rfl) ?_
      refine lv_aload_n hx hb dL_law_437 rfl (lv_at hl 0 rfl) ?_
      refine lv_iload_n hx hb dL_law_438 rfl (lv_at hl 3 rfl) ?_
      refine lv_iconst (v := 1) hx hb dL_law_439 (by decide) ?_
      refine lv_iadd hx hb dL_law_440 ?_
      rw [f1]
      refine va_sld hx hb hX hbl hbA hS (vp_in_nI (n := i + 1) (by omega) (by omega)) dL_law_441 ?_
      rw [← e1]
      refine law_c1 C1 (p_minutes hI hY1) l_L_49 m_X9_minutes rfl rfl (by decide) dL_law_442 hP hS hl.1 (fun v M1 H1 locs1 Qm hT hcm hfin hP hS => ?_)
      obtain ⟨x9, rfl⟩ := hT
      refine lv_aload_n hx hb dL_law_445 rfl (lv_at hl 2 rfl) ?_
      refine lv_aload_n hx hb dL_law_446 rfl (lv_at hl 0 rfl) ?_
      refine lv_iload_n hx hb dL_law_447 rfl (lv_at hl 3 rfl) ?_
      refine lv_iconst (v := 1) hx hb dL_law_448 (by decide) ?_
      refine lv_iadd hx hb dL_law_449 ?_
      rw [f1]
      refine va_sld hx hb hX hbl hbA hS (vp_in_nI (n := i + 1) (by omega) (by omega)) dL_law_450 ?_
      rw [← e1]
      refine law_c2 C1 hcm hfin l_L_52 m_X10_minutes rfl rfl (by decide) dL_law_451 (Nat.le_of_ble_eq_true rfl) hP hS hl.1 (fun M2 H2 locs2 hI2 hP hS => ?_)
      exact lv_icmp_eq (tgt := 1442) hx hb dL_law_454 (by decide) (fun _ => nxt _ _ _ hI2 hP hS) (fun h9 => absurd rfl h9)
    · refine lv_tableIn (off := 427) (tgt := 459) hx hb dL_law_32 (by rw [hzt]; omega) (by rw [hzt]; omega) (by rw [hzt, hsw]; rfl) (by decide) ?_
      refine lv_aload_n hx hb dL_law_459 rfl (lv_at hl 1 rfl) ?_
      refine law_c1 C1 (p_back hI) l_L_53 m_X9_back rfl rfl (by decide) dL_law_460 hP hS hl.1 (fun v M1 H1 locs1 Qm hT hcm hfin hP hS => ?_)
      obtain ⟨x9, rfl⟩ := hT
      refine lv_aload_n hx hb dL_law_463 rfl (lv_at hl 2 rfl) ?_
      refine law_c2 C1 hcm hfin l_L_56 m_X10_back rfl rfl (by decide) dL_law_464 (Nat.le_of_ble_eq_true rfl) hP hS hl.1 (fun M2 H2 locs2 hI2 hP hS => ?_)
      exact lv_icmp_eq (tgt := 1442) hx hb dL_law_467 (by decide) (fun _ => nxt _ _ _ hI2 hP hS) (fun h9 => absurd rfl h9)
    · refine lv_tableIn (off := 440) (tgt := 472) hx hb dL_law_32 (by rw [hzt]; omega) (by rw [hzt]; omega) (by rw [hzt, hsw]; rfl) (by decide) ?_
      refine lv_aload_n hx hb dL_law_472 rfl (lv_at hl 1 rfl) ?_
      refine lv_aload_n hx hb dL_law_473 rfl (lv_at hl 0 rfl) ?_
      refine lv_iload_n hx hb dL_law_474 rfl (lv_at hl 3 rfl) ?_
      refine lv_iconst (v := 1) hx hb dL_law_475 (by decide) ?_
      refine lv_iadd hx hb dL_law_476 ?_
      rw [f1]
      refine va_sld hx hb hX hbl hbA hS (vp_in_nI (n := i + 1) (by omega) (by omega)) dL_law_477 ?_
      rw [← e1]
      refine lv_aload_n hx hb dL_law_478 rfl (lv_at hl 0 rfl) ?_
      refine lv_iload_n hx hb dL_law_479 rfl (lv_at hl 3 rfl) ?_
      refine lv_iconst (v := 2) hx hb dL_law_480 (by decide) ?_
      refine lv_iadd hx hb dL_law_481 ?_
      rw [f2]
      refine va_sld hx hb hX hbl hbA hS (vp_in_nI (n := i + 2) (by omega) (by omega)) dL_law_482 ?_
      rw [← e2]
      refine lv_aload_n hx hb dL_law_483 rfl (lv_at hl 0 rfl) ?_
      refine lv_iload_n hx hb dL_law_484 rfl (lv_at hl 3 rfl) ?_
      refine lv_iconst (v := 3) hx hb dL_law_485 (by decide) ?_
      refine lv_iadd hx hb dL_law_486 ?_
      rw [f3]
      refine va_sld hx hb hX hbl hbA hS (vp_in_nI (n := i + 3) (by omega) (by omega)) dL_law_487 ?_
      rw [← e3]
      refine law_c1 C1 (p_behind hI hY1 hY2 hY3) l_L_57 m_X9_behind rfl rfl (by decide) dL_law_488 hP hS hl.1 (fun v M1 H1 locs1 Qm hT hcm hfin hP hS => ?_)
      obtain ⟨x9, rfl⟩ := hT
      refine lv_aload_n hx hb dL_law_491 rfl (lv_at hl 2 rfl) ?_
      refine lv_aload_n hx hb dL_law_492 rfl (lv_at hl 0 rfl) ?_
      refine lv_iload_n hx hb dL_law_493 rfl (lv_at hl 3 rfl) ?_
      refine lv_iconst (v := 1) hx hb dL_law_494 (by decide) ?_
      refine lv_iadd hx hb dL_law_495 ?_
      rw [f1]
      refine va_sld hx hb hX hbl hbA hS (vp_in_nI (n := i + 1) (by omega) (by omega)) dL_law_496 ?_
      rw [← e1]
      refine lv_aload_n hx hb dL_law_497 rfl (lv_at hl 0 rfl) ?_
      refine lv_iload_n hx hb dL_law_498 rfl (lv_at hl 3 rfl) ?_
      refine lv_iconst (v := 2) hx hb dL_law_499 (by decide) ?_
      refine lv_iadd hx hb dL_law_500 ?_
      rw [f2]
      refine va_sld hx hb hX hbl hbA hS (vp_in_nI (n := i + 2) (by omega) (by omega)) dL_law_501 ?_
      rw [← e2]
      refine lv_aload_n hx hb dL_law_502 rfl (lv_at hl 0 rfl) ?_
      refine lv_iload_n hx hb dL_law_503 rfl (lv_at hl 3 rfl) ?_
      refine lv_iconst (v := 3) hx hb dL_law_504 (by decide) ?_
      refine lv_iadd hx hb dL_law_505 ?_
      rw [f3]
      refine va_sld hx hb hX hbl hbA hS (vp_in_nI (n := i + 3) (by omega) (by omega)) dL_law_506 ?_
      rw [← e3]
      refine law_c2 C1 hcm hfin l_L_60 m_X10_behind rfl rfl (by decide) dL_law_507 (Nat.le_of_ble_eq_true rfl) hP hS hl.1 (fun M2 H2 locs2 hI2 hP hS => ?_)
      exact lv_icmp_eq (tgt := 1442) hx hb dL_law_510 (by decide) (fun _ => nxt _ _ _ hI2 hP hS) (fun h9 => absurd rfl h9)
    · refine lv_tableIn (off := 483) (tgt := 515) hx hb dL_law_32 (by rw [hzt]; omega) (by rw [hzt]; omega) (by rw [hzt, hsw]; rfl) (by decide) ?_
      refine lv_aload_n hx hb dL_law_515 rfl (lv_at hl 1 rfl) ?_
      refine lv_aload_n hx hb dL_law_516 rfl (lv_at hl 0 rfl) ?_
      refine lv_iload_n hx hb dL_law_517 rfl (lv_at hl 3 rfl) ?_
      refine lv_iconst (v := 1) hx hb dL_law_518 (by decide) ?_
      refine lv_iadd hx hb dL_law_519 ?_
      rw [f1]
      refine va_sld hx hb hX hbl hbA hS (vp_in_nI (n := i + 1) (by omega) (by omega)) dL_law_520 ?_
      rw [← e1]
      refine lv_aload_n hx hb dL_law_521 rfl (lv_at hl 0 rfl) ?_
      refine lv_iload_n hx hb dL_law_522 rfl (lv_at hl 3 rfl) ?_
      refine lv_iconst (v := 2) hx hb dL_law_523 (by decide) ?_
      refine lv_iadd hx hb dL_law_524 ?_
      rw [f2]
      refine va_sld hx hb hX hbl hbA hS (vp_in_nI (n := i + 2) (by omega) (by omega)) dL_law_525 ?_
      rw [← e2]
      refine law_c1 C1 (p_all hI hY1 hY2) l_L_61 m_X9_all rfl rfl (by decide) dL_law_526 hP hS hl.1 (fun v M1 H1 locs1 Qm hT hcm hfin hP hS => ?_)
      obtain ⟨x9, rfl⟩ := hT
      refine lv_aload_n hx hb dL_law_529 rfl (lv_at hl 2 rfl) ?_
      refine lv_aload_n hx hb dL_law_530 rfl (lv_at hl 0 rfl) ?_
      refine lv_iload_n hx hb dL_law_531 rfl (lv_at hl 3 rfl) ?_
      refine lv_iconst (v := 1) hx hb dL_law_532 (by decide) ?_
      refine lv_iadd hx hb dL_law_533 ?_
      rw [f1]
      refine va_sld hx hb hX hbl hbA hS (vp_in_nI (n := i + 1) (by omega) (by omega)) dL_law_534 ?_
      rw [← e1]
      refine lv_aload_n hx hb dL_law_535 rfl (lv_at hl 0 rfl) ?_
      refine lv_iload_n hx hb dL_law_536 rfl (lv_at hl 3 rfl) ?_
      refine lv_iconst (v := 2) hx hb dL_law_537 (by decide) ?_
      refine lv_iadd hx hb dL_law_538 ?_
      rw [f2]
      refine va_sld hx hb hX hbl hbA hS (vp_in_nI (n := i + 2) (by omega) (by omega)) dL_law_539 ?_
      rw [← e2]
      refine law_c2 C1 hcm hfin l_L_64 m_X10_all rfl rfl (by decide) dL_law_540 (Nat.le_of_ble_eq_true rfl) hP hS hl.1 (fun M2 H2 locs2 hI2 hP hS => ?_)
      exact lv_icmp_eq (tgt := 1442) hx hb dL_law_543 (by decide) (fun _ => nxt _ _ _ hI2 hP hS) (fun h9 => absurd rfl h9)
    · refine lv_tableIn (off := 516) (tgt := 548) hx hb dL_law_32 (by rw [hzt]; omega) (by rw [hzt]; omega) (by rw [hzt, hsw]; rfl) (by decide) ?_
      refine lv_aload_n hx hb dL_law_548 rfl (lv_at hl 1 rfl) ?_
      refine lv_aload_n hx hb dL_law_549 rfl (lv_at hl 0 rfl) ?_
      refine lv_iload_n hx hb dL_law_550 rfl (lv_at hl 3 rfl) ?_
      refine lv_iconst (v := 1) hx hb dL_law_551 (by decide) ?_
      refine lv_iadd hx hb dL_law_552 ?_
      rw [f1]
      refine va_sld hx hb hX hbl hbA hS (vp_in_nI (n := i + 1) (by omega) (by omega)) dL_law_553 ?_
      rw [← e1]
      refine law_c1 C1 (p_leaves hI hY1) l_L_65 m_X9_leaves rfl rfl (by decide) dL_law_554 hP hS hl.1 (fun v M1 H1 locs1 Qm hT hcm hfin hP hS => ?_)
      obtain ⟨x9, rfl⟩ := hT
      refine lv_aload_n hx hb dL_law_557 rfl (lv_at hl 2 rfl) ?_
      refine lv_aload_n hx hb dL_law_558 rfl (lv_at hl 0 rfl) ?_
      refine lv_iload_n hx hb dL_law_559 rfl (lv_at hl 3 rfl) ?_
      refine lv_iconst (v := 1) hx hb dL_law_560 (by decide) ?_
      refine lv_iadd hx hb dL_law_561 ?_
      rw [f1]
      refine va_sld hx hb hX hbl hbA hS (vp_in_nI (n := i + 1) (by omega) (by omega)) dL_law_562 ?_
      rw [← e1]
      refine law_c2 C1 hcm hfin l_L_68 m_X10_leaves rfl rfl (by decide) dL_law_563 (Nat.le_of_ble_eq_true rfl) hP hS hl.1 (fun M2 H2 locs2 hI2 hP hS => ?_)
      exact lv_icmp_eq (tgt := 1442) hx hb dL_law_566 (by decide) (fun _ => nxt _ _ _ hI2 hP hS) (fun h9 => absurd rfl h9)
    · refine lv_tableIn (off := 539) (tgt := 571) hx hb dL_law_32 (by rw [hzt]; omega) (by rw [hzt]; omega) (by rw [hzt, hsw]; rfl) (by decide) ?_
      refine lv_aload_n hx hb dL_law_571 rfl (lv_at hl 1 rfl) ?_
      refine lv_aload_n hx hb dL_law_572 rfl (lv_at hl 0 rfl) ?_
      refine lv_iload_n hx hb dL_law_573 rfl (lv_at hl 3 rfl) ?_
      refine lv_iconst (v := 1) hx hb dL_law_574 (by decide) ?_
      refine lv_iadd hx hb dL_law_575 ?_
      rw [f1]
      refine va_sld hx hb hX hbl hbA hS (vp_in_nI (n := i + 1) (by omega) (by omega)) dL_law_576 ?_
      rw [← e1]
      refine law_c1 C1 (p_gone hI hY1) l_L_69 m_X9_gone rfl rfl (by decide) dL_law_577 hP hS hl.1 (fun v M1 H1 locs1 Qm hT hcm hfin hP hS => ?_)
      obtain ⟨x9, rfl⟩ := hT
      refine lv_aload_n hx hb dL_law_580 rfl (lv_at hl 2 rfl) ?_
      refine lv_aload_n hx hb dL_law_581 rfl (lv_at hl 0 rfl) ?_
      refine lv_iload_n hx hb dL_law_582 rfl (lv_at hl 3 rfl) ?_
      refine lv_iconst (v := 1) hx hb dL_law_583 (by decide) ?_
      refine lv_iadd hx hb dL_law_584 ?_
      rw [f1]
      refine va_sld hx hb hX hbl hbA hS (vp_in_nI (n := i + 1) (by omega) (by omega)) dL_law_585 ?_
      rw [← e1]
      refine law_c2 C1 hcm hfin l_L_72 m_X10_gone rfl rfl (by decide) dL_law_586 (Nat.le_of_ble_eq_true rfl) hP hS hl.1 (fun M2 H2 locs2 hI2 hP hS => ?_)
      exact lv_icmp_eq (tgt := 1442) hx hb dL_law_589 (by decide) (fun _ => nxt _ _ _ hI2 hP hS) (fun h9 => absurd rfl h9)
    · refine lv_tableIn (off := 562) (tgt := 594) hx hb dL_law_32 (by rw [hzt]; omega) (by rw [hzt]; omega) (by rw [hzt, hsw]; rfl) (by decide) ?_
      refine lv_aload_n hx hb dL_law_594 rfl (lv_at hl 1 rfl) ?_
      refine lv_aload_n hx hb dL_law_595 rfl (lv_at hl 0 rfl) ?_
      refine lv_iload_n hx hb dL_law_596 rfl (lv_at hl 3 rfl) ?_
      refine lv_iconst (v := 1) hx hb dL_law_597 (by decide) ?_
      refine lv_iadd hx hb dL_law_598 ?_
      rw [f1]
      refine va_sld hx hb hX hbl hbA hS (vp_in_nI (n := i + 1) (by omega) (by omega)) dL_law_599 ?_
      rw [← e1]
      refine law_c1 C1 (p_tastes hI hY1) l_L_73 m_X9_tastes rfl rfl (by decide) dL_law_600 hP hS hl.1 (fun v M1 H1 locs1 Qm hT hcm hfin hP hS => ?_)
      obtain ⟨x9, rfl⟩ := hT
      refine lv_aload_n hx hb dL_law_603 rfl (lv_at hl 2 rfl) ?_
      refine lv_aload_n hx hb dL_law_604 rfl (lv_at hl 0 rfl) ?_
      refine lv_iload_n hx hb dL_law_605 rfl (lv_at hl 3 rfl) ?_
      refine lv_iconst (v := 1) hx hb dL_law_606 (by decide) ?_
      refine lv_iadd hx hb dL_law_607 ?_
      rw [f1]
      refine va_sld hx hb hX hbl hbA hS (vp_in_nI (n := i + 1) (by omega) (by omega)) dL_law_608 ?_
      rw [← e1]
      refine law_c2 C1 hcm hfin l_L_76 m_X10_tastes rfl rfl (by decide) dL_law_609 (Nat.le_of_ble_eq_true rfl) hP hS hl.1 (fun M2 H2 locs2 hI2 hP hS => ?_)
      exact lv_icmp_eq (tgt := 1442) hx hb dL_law_612 (by decide) (fun _ => nxt _ _ _ hI2 hP hS) (fun h9 => absurd rfl h9)
    · refine lv_tableIn (off := 585) (tgt := 617) hx hb dL_law_32 (by rw [hzt]; omega) (by rw [hzt]; omega) (by rw [hzt, hsw]; rfl) (by decide) ?_
      refine lv_aload_n hx hb dL_law_617 rfl (lv_at hl 1 rfl) ?_
      refine lv_aload_n hx hb dL_law_618 rfl (lv_at hl 0 rfl) ?_
      refine lv_iload_n hx hb dL_law_619 rfl (lv_at hl 3 rfl) ?_
      refine lv_iconst (v := 1) hx hb dL_law_620 (by decide) ?_
      refine lv_iadd hx hb dL_law_621 ?_
      rw [f1]
      refine va_sld hx hb hX hbl hbA hS (vp_in_nI (n := i + 1) (by omega) (by omega)) dL_law_622 ?_
      rw [← e1]
      refine law_c1 C1 (p_thirsty hI hY1) l_L_77 m_X9_thirsty rfl rfl (by decide) dL_law_623 hP hS hl.1 (fun v M1 H1 locs1 Qm hT hcm hfin hP hS => ?_)
      obtain ⟨x9, rfl⟩ := hT
      refine lv_aload_n hx hb dL_law_626 rfl (lv_at hl 2 rfl) ?_
      refine lv_aload_n hx hb dL_law_627 rfl (lv_at hl 0 rfl) ?_
      refine lv_iload_n hx hb dL_law_628 rfl (lv_at hl 3 rfl) ?_
      refine lv_iconst (v := 1) hx hb dL_law_629 (by decide) ?_
      refine lv_iadd hx hb dL_law_630 ?_
      rw [f1]
      refine va_sld hx hb hX hbl hbA hS (vp_in_nI (n := i + 1) (by omega) (by omega)) dL_law_631 ?_
      rw [← e1]
      refine law_c2 C1 hcm hfin l_L_80 m_X10_thirsty rfl rfl (by decide) dL_law_632 (Nat.le_of_ble_eq_true rfl) hP hS hl.1 (fun M2 H2 locs2 hI2 hP hS => ?_)
      exact lv_icmp_eq (tgt := 1442) hx hb dL_law_635 (by decide) (fun _ => nxt _ _ _ hI2 hP hS) (fun h9 => absurd rfl h9)
    · refine lv_tableIn (off := 608) (tgt := 640) hx hb dL_law_32 (by rw [hzt]; omega) (by rw [hzt]; omega) (by rw [hzt, hsw]; rfl) (by decide) ?_
      refine lv_aload_n hx hb dL_law_640 rfl (lv_at hl 1 rfl) ?_
      refine lv_aload_n hx hb dL_law_641 rfl (lv_at hl 0 rfl) ?_
      refine lv_iload_n hx hb dL_law_642 rfl (lv_at hl 3 rfl) ?_
      refine lv_iconst (v := 1) hx hb dL_law_643 (by decide) ?_
      refine lv_iadd hx hb dL_law_644 ?_
      rw [f1]
      refine va_sld hx hb hX hbl hbA hS (vp_in_nI (n := i + 1) (by omega) (by omega)) dL_law_645 ?_
      rw [← e1]
      refine law_c1 C1 (p_cupsWanted hI hY1) l_L_81 m_X9_cupsWanted rfl rfl (by decide) dL_law_646 hP hS hl.1 (fun v M1 H1 locs1 Qm hT hcm hfin hP hS => ?_)
      obtain ⟨x9, rfl⟩ := hT
      refine lv_aload_n hx hb dL_law_649 rfl (lv_at hl 2 rfl) ?_
      refine lv_aload_n hx hb dL_law_650 rfl (lv_at hl 0 rfl) ?_
      refine lv_iload_n hx hb dL_law_651 rfl (lv_at hl 3 rfl) ?_
      refine lv_iconst (v := 1) hx hb dL_law_652 (by decide) ?_
      refine lv_iadd hx hb dL_law_653 ?_
      rw [f1]
      refine va_sld hx hb hX hbl hbA hS (vp_in_nI (n := i + 1) (by omega) (by omega)) dL_law_654 ?_
      rw [← e1]
      refine law_c2 C1 hcm hfin l_L_84 m_X10_cupsWanted rfl rfl (by decide) dL_law_655 (Nat.le_of_ble_eq_true rfl) hP hS hl.1 (fun M2 H2 locs2 hI2 hP hS => ?_)
      exact lv_icmp_eq (tgt := 1442) hx hb dL_law_658 (by decide) (fun _ => nxt _ _ _ hI2 hP hS) (fun h9 => absurd rfl h9)
    · refine lv_tableIn (off := 631) (tgt := 663) hx hb dL_law_32 (by rw [hzt]; omega) (by rw [hzt]; omega) (by rw [hzt, hsw]; rfl) (by decide) ?_
      refine lv_aload_n hx hb dL_law_663 rfl (lv_at hl 1 rfl) ?_
      refine lv_aload_n hx hb dL_law_664 rfl (lv_at hl 0 rfl) ?_
      refine lv_iload_n hx hb dL_law_665 rfl (lv_at hl 3 rfl) ?_
      refine lv_iconst (v := 1) hx hb dL_law_666 (by decide) ?_
      refine lv_iadd hx hb dL_law_667 ?_
      rw [f1]
      refine va_sld hx hb hX hbl hbA hS (vp_in_nI (n := i + 1) (by omega) (by omega)) dL_law_668 ?_
      rw [← e1]
      refine law_c1 C1 (p_bestRule hI hY1) l_L_85 m_X9_bestRule rfl rfl (by decide) dL_law_669 hP hS hl.1 (fun v M1 H1 locs1 Qm hT hcm hfin hP hS => ?_)
      obtain ⟨x9, rfl⟩ := hT
      refine lv_aload_n hx hb dL_law_672 rfl (lv_at hl 2 rfl) ?_
      refine lv_aload_n hx hb dL_law_673 rfl (lv_at hl 0 rfl) ?_
      refine lv_iload_n hx hb dL_law_674 rfl (lv_at hl 3 rfl) ?_
      refine lv_iconst (v := 1) hx hb dL_law_675 (by decide) ?_
      refine lv_iadd hx hb dL_law_676 ?_
      rw [f1]
      refine va_sld hx hb hX hbl hbA hS (vp_in_nI (n := i + 1) (by omega) (by omega)) dL_law_677 ?_
      rw [← e1]
      refine law_c2 C1 hcm hfin l_L_88 m_X10_bestRule rfl rfl (by decide) dL_law_678 (Nat.le_of_ble_eq_true rfl) hP hS hl.1 (fun M2 H2 locs2 hI2 hP hS => ?_)
      exact lv_icmp_eq (tgt := 1442) hx hb dL_law_681 (by decide) (fun _ => nxt _ _ _ hI2 hP hS) (fun h9 => absurd rfl h9)
    · refine lv_tableIn (off := 654) (tgt := 686) hx hb dL_law_32 (by rw [hzt]; omega) (by rw [hzt]; omega) (by rw [hzt, hsw]; rfl) (by decide) ?_
      refine lv_aload_n hx hb dL_law_686 rfl (lv_at hl 1 rfl) ?_
      refine lv_aload_n hx hb dL_law_687 rfl (lv_at hl 0 rfl) ?_
      refine lv_iload_n hx hb dL_law_688 rfl (lv_at hl 3 rfl) ?_
      refine lv_iconst (v := 1) hx hb dL_law_689 (by decide) ?_
      refine lv_iadd hx hb dL_law_690 ?_
      rw [f1]
      refine va_sld hx hb hX hbl hbA hS (vp_in_nI (n := i + 1) (by omega) (by omega)) dL_law_691 ?_
      rw [← e1]
      refine law_c1 C1 (p_rising hI hY1) l_L_89 m_X9_rising rfl rfl (by decide) dL_law_692 hP hS hl.1 (fun v M1 H1 locs1 Qm hT hcm hfin hP hS => ?_)
      obtain ⟨x9, rfl⟩ := hT
      refine lv_aload_n hx hb dL_law_695 rfl (lv_at hl 2 rfl) ?_
      refine lv_aload_n hx hb dL_law_696 rfl (lv_at hl 0 rfl) ?_
      refine lv_iload_n hx hb dL_law_697 rfl (lv_at hl 3 rfl) ?_
      refine lv_iconst (v := 1) hx hb dL_law_698 (by decide) ?_
      refine lv_iadd hx hb dL_law_699 ?_
      rw [f1]
      refine va_sld hx hb hX hbl hbA hS (vp_in_nI (n := i + 1) (by omega) (by omega)) dL_law_700 ?_
      rw [← e1]
      refine law_c2 C1 hcm hfin l_L_92 m_X10_rising rfl rfl (by decide) dL_law_701 (Nat.le_of_ble_eq_true rfl) hP hS hl.1 (fun M2 H2 locs2 hI2 hP hS => ?_)
      exact lv_icmp_eq (tgt := 1442) hx hb dL_law_704 (by decide) (fun _ => nxt _ _ _ hI2 hP hS) (fun h9 => absurd rfl h9)
    · refine lv_tableIn (off := 677) (tgt := 709) hx hb dL_law_32 (by rw [hzt]; omega) (by rw [hzt]; omega) (by rw [hzt, hsw]; rfl) (by decide) ?_
      refine lv_aload_n hx hb dL_law_709 rfl (lv_at hl 1 rfl) ?_
      refine lv_aload_n hx hb dL_law_710 rfl (lv_at hl 0 rfl) ?_
      refine lv_iload_n hx hb dL_law_711 rfl (lv_at hl 3 rfl) ?_
      refine lv_iconst (v := 1) hx hb dL_law_712 (by decide) ?_
      refine lv_iadd hx hb dL_law_713 ?_
      rw [f1]
      refine va_sld hx hb hX hbl hbA hS (vp_in_nI (n := i + 1) (by omega) (by omega)) dL_law_714 ?_
      rw [← e1]
      refine lv_aload_n hx hb dL_law_715 rfl (lv_at hl 0 rfl) ?_
      refine lv_iload_n hx hb dL_law_716 rfl (lv_at hl 3 rfl) ?_
      refine lv_iconst (v := 2) hx hb dL_law_717 (by decide) ?_
      refine lv_iadd hx hb dL_law_718 ?_
      rw [f2]
      refine va_sld hx hb hX hbl hbA hS (vp_in_nI (n := i + 2) (by omega) (by omega)) dL_law_719 ?_
      rw [← e2]
      refine law_c1 C1 (p_bestRise hI hY1 hY2) l_L_93 m_X9_bestRise rfl rfl (by decide) dL_law_720 hP hS hl.1 (fun v M1 H1 locs1 Qm hT hcm hfin hP hS => ?_)
      obtain ⟨x9, rfl⟩ := hT
      refine lv_aload_n hx hb dL_law_723 rfl (lv_at hl 2 rfl) ?_
      refine lv_aload_n hx hb dL_law_724 rfl (lv_at hl 0 rfl) ?_
      refine lv_iload_n hx hb dL_law_725 rfl (lv_at hl 3 rfl) ?_
      refine lv_iconst (v := 1) hx hb dL_law_726 (by decide) ?_
      refine lv_iadd hx hb dL_law_727 ?_
      rw [f1]
      refine va_sld hx hb hX hbl hbA hS (vp_in_nI (n := i + 1) (by omega) (by omega)) dL_law_728 ?_
      rw [← e1]
      refine lv_aload_n hx hb dL_law_729 rfl (lv_at hl 0 rfl) ?_
      refine lv_iload_n hx hb dL_law_730 rfl (lv_at hl 3 rfl) ?_
      refine lv_iconst (v := 2) hx hb dL_law_731 (by decide) ?_
      refine lv_iadd hx hb dL_law_732 ?_
      rw [f2]
      refine va_sld hx hb hX hbl hbA hS (vp_in_nI (n := i + 2) (by omega) (by omega)) dL_law_733 ?_
      rw [← e2]
      refine law_c2 C1 hcm hfin l_L_96 m_X10_bestRise rfl rfl (by decide) dL_law_734 (Nat.le_of_ble_eq_true rfl) hP hS hl.1 (fun M2 H2 locs2 hI2 hP hS => ?_)
      exact lv_icmp_eq (tgt := 1442) hx hb dL_law_737 (by decide) (fun _ => nxt _ _ _ hI2 hP hS) (fun h9 => absurd rfl h9)
    · refine lv_tableIn (off := 710) (tgt := 742) hx hb dL_law_32 (by rw [hzt]; omega) (by rw [hzt]; omega) (by rw [hzt, hsw]; rfl) (by decide) ?_
      refine lv_aload_n hx hb dL_law_742 rfl (lv_at hl 1 rfl) ?_
      refine lv_aload_n hx hb dL_law_743 rfl (lv_at hl 0 rfl) ?_
      refine lv_iload_n hx hb dL_law_744 rfl (lv_at hl 3 rfl) ?_
      refine lv_iconst (v := 1) hx hb dL_law_745 (by decide) ?_
      refine lv_iadd hx hb dL_law_746 ?_
      rw [f1]
      refine va_sld hx hb hX hbl hbA hS (vp_in_nI (n := i + 1) (by omega) (by omega)) dL_law_747 ?_
      rw [← e1]
      refine lv_aload_n hx hb dL_law_748 rfl (lv_at hl 0 rfl) ?_
      refine lv_iload_n hx hb dL_law_749 rfl (lv_at hl 3 rfl) ?_
      refine lv_iconst (v := 2) hx hb dL_law_750 (by decide) ?_
      refine lv_iadd hx hb dL_law_751 ?_
      rw [f2]
      refine va_sld hx hb hX hbl hbA hS (vp_in_nI (n := i + 2) (by omega) (by omega)) dL_law_752 ?_
      rw [← e2]
      refine law_c1 C1 (p_two hI hY1 hY2) l_L_97 m_X9_two rfl rfl (by decide) dL_law_753 hP hS hl.1 (fun v M1 H1 locs1 Qm hT hcm hfin hP hS => ?_)
      obtain ⟨x9, rfl⟩ := hT
      refine lv_aload_n hx hb dL_law_756 rfl (lv_at hl 2 rfl) ?_
      refine lv_aload_n hx hb dL_law_757 rfl (lv_at hl 0 rfl) ?_
      refine lv_iload_n hx hb dL_law_758 rfl (lv_at hl 3 rfl) ?_
      refine lv_iconst (v := 1) hx hb dL_law_759 (by decide) ?_
      refine lv_iadd hx hb dL_law_760 ?_
      rw [f1]
      refine va_sld hx hb hX hbl hbA hS (vp_in_nI (n := i + 1) (by omega) (by omega)) dL_law_761 ?_
      rw [← e1]
      refine lv_aload_n hx hb dL_law_762 rfl (lv_at hl 0 rfl) ?_
      refine lv_iload_n hx hb dL_law_763 rfl (lv_at hl 3 rfl) ?_
      refine lv_iconst (v := 2) hx hb dL_law_764 (by decide) ?_
      refine lv_iadd hx hb dL_law_765 ?_
      rw [f2]
      refine va_sld hx hb hX hbl hbA hS (vp_in_nI (n := i + 2) (by omega) (by omega)) dL_law_766 ?_
      rw [← e2]
      refine law_c2 C1 hcm hfin l_L_100 m_X10_two rfl rfl (by decide) dL_law_767 (Nat.le_of_ble_eq_true rfl) hP hS hl.1 (fun M2 H2 locs2 hI2 hP hS => ?_)
      exact lv_icmp_eq (tgt := 1442) hx hb dL_law_770 (by decide) (fun _ => nxt _ _ _ hI2 hP hS) (fun h9 => absurd rfl h9)
    · refine lv_tableIn (off := 743) (tgt := 775) hx hb dL_law_32 (by rw [hzt]; omega) (by rw [hzt]; omega) (by rw [hzt, hsw]; rfl) (by decide) ?_
      refine lv_aload_n hx hb dL_law_775 rfl (lv_at hl 1 rfl) ?_
      refine lv_aload_n hx hb dL_law_776 rfl (lv_at hl 0 rfl) ?_
      refine lv_iload_n hx hb dL_law_777 rfl (lv_at hl 3 rfl) ?_
      refine lv_iconst (v := 1) hx hb dL_law_778 (by decide) ?_
      refine lv_iadd hx hb dL_law_779 ?_
      rw [f1]
      refine va_sld hx hb hX hbl hbA hS (vp_in_nI (n := i + 1) (by omega) (by omega)) dL_law_780 ?_
      rw [← e1]
      refine law_c1 C1 (p_rest hI hY1) l_L_101 m_X9_rest rfl rfl (by decide) dL_law_781 hP hS hl.1 (fun v M1 H1 locs1 Qm hT hcm hfin hP hS => ?_)
      obtain ⟨x9, rfl⟩ := hT
      refine lv_aload_n hx hb dL_law_784 rfl (lv_at hl 2 rfl) ?_
      refine lv_aload_n hx hb dL_law_785 rfl (lv_at hl 0 rfl) ?_
      refine lv_iload_n hx hb dL_law_786 rfl (lv_at hl 3 rfl) ?_
      refine lv_iconst (v := 1) hx hb dL_law_787 (by decide) ?_
      refine lv_iadd hx hb dL_law_788 ?_
      rw [f1]
      refine va_sld hx hb hX hbl hbA hS (vp_in_nI (n := i + 1) (by omega) (by omega)) dL_law_789 ?_
      rw [← e1]
      refine law_c2 C1 hcm hfin l_L_104 m_X10_rest rfl rfl (by decide) dL_law_790 (Nat.le_of_ble_eq_true rfl) hP hS hl.1 (fun M2 H2 locs2 hI2 hP hS => ?_)
      exact lv_icmp_eq (tgt := 1442) hx hb dL_law_793 (by decide) (fun _ => nxt _ _ _ hI2 hP hS) (fun h9 => absurd rfl h9)
    · refine lv_tableIn (off := 766) (tgt := 798) hx hb dL_law_32 (by rw [hzt]; omega) (by rw [hzt]; omega) (by rw [hzt, hsw]; rfl) (by decide) ?_
      refine lv_aload_n hx hb dL_law_798 rfl (lv_at hl 1 rfl) ?_
      refine lv_aload_n hx hb dL_law_799 rfl (lv_at hl 0 rfl) ?_
      refine lv_iload_n hx hb dL_law_800 rfl (lv_at hl 3 rfl) ?_
      refine lv_iconst (v := 1) hx hb dL_law_801 (by decide) ?_
      refine lv_iadd hx hb dL_law_802 ?_
      rw [f1]
      refine va_sld hx hb hX hbl hbA hS (vp_in_nI (n := i + 1) (by omega) (by omega)) dL_law_803 ?_
      rw [← e1]
      refine law_c1 C1 (p_garden hI hY1) l_L_105 m_X9_garden rfl rfl (by decide) dL_law_804 hP hS hl.1 (fun v M1 H1 locs1 Qm hT hcm hfin hP hS => ?_)
      obtain ⟨x9, rfl⟩ := hT
      refine lv_aload_n hx hb dL_law_807 rfl (lv_at hl 2 rfl) ?_
      refine lv_aload_n hx hb dL_law_808 rfl (lv_at hl 0 rfl) ?_
      refine lv_iload_n hx hb dL_law_809 rfl (lv_at hl 3 rfl) ?_
      refine lv_iconst (v := 1) hx hb dL_law_810 (by decide) ?_
      refine lv_iadd hx hb dL_law_811 ?_
      rw [f1]
      refine va_sld hx hb hX hbl hbA hS (vp_in_nI (n := i + 1) (by omega) (by omega)) dL_law_812 ?_
      rw [← e1]
      refine law_c2 C1 hcm hfin l_L_108 m_X10_garden rfl rfl (by decide) dL_law_813 (Nat.le_of_ble_eq_true rfl) hP hS hl.1 (fun M2 H2 locs2 hI2 hP hS => ?_)
      exact lv_icmp_eq (tgt := 1442) hx hb dL_law_816 (by decide) (fun _ => nxt _ _ _ hI2 hP hS) (fun h9 => absurd rfl h9)
    · refine lv_tableIn (off := 789) (tgt := 821) hx hb dL_law_32 (by rw [hzt]; omega) (by rw [hzt]; omega) (by rw [hzt, hsw]; rfl) (by decide) ?_
      refine lv_aload_n hx hb dL_law_821 rfl (lv_at hl 1 rfl) ?_
      refine lv_aload_n hx hb dL_law_822 rfl (lv_at hl 0 rfl) ?_
      refine lv_iload_n hx hb dL_law_823 rfl (lv_at hl 3 rfl) ?_
      refine lv_iconst (v := 1) hx hb dL_law_824 (by decide) ?_
      refine lv_iadd hx hb dL_law_825 ?_
      rw [f1]
      refine va_sld hx hb hX hbl hbA hS (vp_in_nI (n := i + 1) (by omega) (by omega)) dL_law_826 ?_
      rw [← e1]
      refine law_c1 C1 (p_served hI hY1) l_L_109 m_X9_served rfl rfl (by decide) dL_law_827 hP hS hl.1 (fun v M1 H1 locs1 Qm hT hcm hfin hP hS => ?_)
      obtain ⟨x9, rfl⟩ := hT
      refine lv_aload_n hx hb dL_law_830 rfl (lv_at hl 2 rfl) ?_
      refine lv_aload_n hx hb dL_law_831 rfl (lv_at hl 0 rfl) ?_
      refine lv_iload_n hx hb dL_law_832 rfl (lv_at hl 3 rfl) ?_
      refine lv_iconst (v := 1) hx hb dL_law_833 (by decide) ?_
      refine lv_iadd hx hb dL_law_834 ?_
      rw [f1]
      refine va_sld hx hb hX hbl hbA hS (vp_in_nI (n := i + 1) (by omega) (by omega)) dL_law_835 ?_
      rw [← e1]
      refine law_c2 C1 hcm hfin l_L_112 m_X10_served rfl rfl (by decide) dL_law_836 (Nat.le_of_ble_eq_true rfl) hP hS hl.1 (fun M2 H2 locs2 hI2 hP hS => ?_)
      exact lv_icmp_eq (tgt := 1442) hx hb dL_law_839 (by decide) (fun _ => nxt _ _ _ hI2 hP hS) (fun h9 => absurd rfl h9)
    · refine lv_tableIn (off := 812) (tgt := 844) hx hb dL_law_32 (by rw [hzt]; omega) (by rw [hzt]; omega) (by rw [hzt, hsw]; rfl) (by decide) ?_
      refine lv_aload_n hx hb dL_law_844 rfl (lv_at hl 1 rfl) ?_
      refine lv_aload_n hx hb dL_law_845 rfl (lv_at hl 0 rfl) ?_
      refine lv_iload_n hx hb dL_law_846 rfl (lv_at hl 3 rfl) ?_
      refine lv_iconst (v := 1) hx hb dL_law_847 (by decide) ?_
      refine lv_iadd hx hb dL_law_848 ?_
      rw [f1]
      refine va_sld hx hb hX hbl hbA hS (vp_in_nI (n := i + 1) (by omega) (by omega)) dL_law_849 ?_
      rw [← e1]
      refine lv_aload_n hx hb dL_law_850 rfl (lv_at hl 0 rfl) ?_
      refine lv_iload_n hx hb dL_law_851 rfl (lv_at hl 3 rfl) ?_
      refine lv_iconst (v := 2) hx hb dL_law_852 (by decide) ?_
      refine lv_iadd hx hb dL_law_853 ?_
      rw [f2]
      refine va_sld hx hb hX hbl hbA hS (vp_in_nI (n := i + 2) (by omega) (by omega)) dL_law_854 ?_
      rw [← e2]
      refine law_c1 C1 (p_who hI hY1 hY2) l_L_113 m_X9_who rfl rfl (by decide) dL_law_855 hP hS hl.1 (fun v M1 H1 locs1 Qm hT hcm hfin hP hS => ?_)
      obtain ⟨x9, rfl⟩ := hT
      refine lv_aload_n hx hb dL_law_858 rfl (lv_at hl 2 rfl) ?_
      refine lv_aload_n hx hb dL_law_859 rfl (lv_at hl 0 rfl) ?_
      refine lv_iload_n hx hb dL_law_860 rfl (lv_at hl 3 rfl) ?_
      refine lv_iconst (v := 1) hx hb dL_law_861 (by decide) ?_
      refine lv_iadd hx hb dL_law_862 ?_
      rw [f1]
      refine va_sld hx hb hX hbl hbA hS (vp_in_nI (n := i + 1) (by omega) (by omega)) dL_law_863 ?_
      rw [← e1]
      refine lv_aload_n hx hb dL_law_864 rfl (lv_at hl 0 rfl) ?_
      refine lv_iload_n hx hb dL_law_865 rfl (lv_at hl 3 rfl) ?_
      refine lv_iconst (v := 2) hx hb dL_law_866 (by decide) ?_
      refine lv_iadd hx hb dL_law_867 ?_
      rw [f2]
      refine va_sld hx hb hX hbl hbA hS (vp_in_nI (n := i + 2) (by omega) (by omega)) dL_law_868 ?_
      rw [← e2]
      refine law_c2 C1 hcm hfin l_L_116 m_X10_who rfl rfl (by decide) dL_law_869 (Nat.le_of_ble_eq_true rfl) hP hS hl.1 (fun M2 H2 locs2 hI2 hP hS => ?_)
      exact lv_icmp_eq (tgt := 1442) hx hb dL_law_872 (by decide) (fun _ => nxt _ _ _ hI2 hP hS) (fun h9 => absurd rfl h9)
    · refine lv_tableIn (off := 845) (tgt := 877) hx hb dL_law_32 (by rw [hzt]; omega) (by rw [hzt]; omega) (by rw [hzt, hsw]; rfl) (by decide) ?_
      refine lv_aload_n hx hb dL_law_877 rfl (lv_at hl 1 rfl) ?_
      refine lv_aload_n hx hb dL_law_878 rfl (lv_at hl 0 rfl) ?_
      refine lv_iload_n hx hb dL_law_879 rfl (lv_at hl 3 rfl) ?_
      refine lv_iconst (v := 1) hx hb dL_law_880 (by decide) ?_
      refine lv_iadd hx hb dL_law_881 ?_
      rw [f1]
      refine va_sld hx hb hX hbl hbA hS (vp_in_nI (n := i + 1) (by omega) (by omega)) dL_law_882 ?_
      rw [← e1]
      refine lv_aload_n hx hb dL_law_883 rfl (lv_at hl 0 rfl) ?_
      refine lv_iload_n hx hb dL_law_884 rfl (lv_at hl 3 rfl) ?_
      refine lv_iconst (v := 2) hx hb dL_law_885 (by decide) ?_
      refine lv_iadd hx hb dL_law_886 ?_
      rw [f2]
      refine va_sld hx hb hX hbl hbA hS (vp_in_nI (n := i + 2) (by omega) (by omega)) dL_law_887 ?_
      rw [← e2]
      refine law_c1 C1 (p_look hI hY1 hY2) l_L_117 m_X9_look rfl rfl (by decide) dL_law_888 hP hS hl.1 (fun v M1 H1 locs1 Qm hT hcm hfin hP hS => ?_)
      obtain ⟨x9, rfl⟩ := hT
      refine lv_aload_n hx hb dL_law_891 rfl (lv_at hl 2 rfl) ?_
      refine lv_aload_n hx hb dL_law_892 rfl (lv_at hl 0 rfl) ?_
      refine lv_iload_n hx hb dL_law_893 rfl (lv_at hl 3 rfl) ?_
      refine lv_iconst (v := 1) hx hb dL_law_894 (by decide) ?_
      refine lv_iadd hx hb dL_law_895 ?_
      rw [f1]
      refine va_sld hx hb hX hbl hbA hS (vp_in_nI (n := i + 1) (by omega) (by omega)) dL_law_896 ?_
      rw [← e1]
      refine lv_aload_n hx hb dL_law_897 rfl (lv_at hl 0 rfl) ?_
      refine lv_iload_n hx hb dL_law_898 rfl (lv_at hl 3 rfl) ?_
      refine lv_iconst (v := 2) hx hb dL_law_899 (by decide) ?_
      refine lv_iadd hx hb dL_law_900 ?_
      rw [f2]
      refine va_sld hx hb hX hbl hbA hS (vp_in_nI (n := i + 2) (by omega) (by omega)) dL_law_901 ?_
      rw [← e2]
      refine law_c2 C1 hcm hfin l_L_120 m_X10_look rfl rfl (by decide) dL_law_902 (Nat.le_of_ble_eq_true rfl) hP hS hl.1 (fun M2 H2 locs2 hI2 hP hS => ?_)
      exact lv_icmp_eq (tgt := 1442) hx hb dL_law_905 (by decide) (fun _ => nxt _ _ _ hI2 hP hS) (fun h9 => absurd rfl h9)
    · refine lv_tableIn (off := 878) (tgt := 910) hx hb dL_law_32 (by rw [hzt]; omega) (by rw [hzt]; omega) (by rw [hzt, hsw]; rfl) (by decide) ?_
      refine lv_aload_n hx hb dL_law_910 rfl (lv_at hl 1 rfl) ?_
      refine lv_aload_n hx hb dL_law_911 rfl (lv_at hl 0 rfl) ?_
      refine lv_iload_n hx hb dL_law_912 rfl (lv_at hl 3 rfl) ?_
      refine lv_iconst (v := 1) hx hb dL_law_913 (by decide) ?_
      refine lv_iadd hx hb dL_law_914 ?_
      rw [f1]
      refine va_sld hx hb hX hbl hbA hS (vp_in_nI (n := i + 1) (by omega) (by omega)) dL_law_915 ?_
      rw [← e1]
      refine lv_aload_n hx hb dL_law_916 rfl (lv_at hl 0 rfl) ?_
      refine lv_iload_n hx hb dL_law_917 rfl (lv_at hl 3 rfl) ?_
      refine lv_iconst (v := 2) hx hb dL_law_918 (by decide) ?_
      refine lv_iadd hx hb dL_law_919 ?_
      rw [f2]
      refine va_sld hx hb hX hbl hbA hS (vp_in_nI (n := i + 2) (by omega) (by omega)) dL_law_920 ?_
      rw [← e2]
      refine lv_aload_n hx hb dL_law_921 rfl (lv_at hl 0 rfl) ?_
      refine lv_iload_n hx hb dL_law_922 rfl (lv_at hl 3 rfl) ?_
      refine lv_iconst (v := 3) hx hb dL_law_923 (by decide) ?_
      refine lv_iadd hx hb dL_law_924 ?_
      rw [f3]
      refine va_sld hx hb hX hbl hbA hS (vp_in_nI (n := i + 3) (by omega) (by omega)) dL_law_925 ?_
      rw [← e3]
      refine lv_aload_n hx hb dL_law_926 rfl (lv_at hl 0 rfl) ?_
      refine lv_iload_n hx hb dL_law_927 rfl (lv_at hl 3 rfl) ?_
      refine lv_iconst (v := 4) hx hb dL_law_928 (by decide) ?_
      refine lv_iadd hx hb dL_law_929 ?_
      rw [f4]
      refine va_sld hx hb hX hbl hbA hS (vp_in_nI (n := i + 4) (by omega) (by omega)) dL_law_930 ?_
      rw [← e4]
      refine law_c1 C1 (p_away hI hY1 hY2 hY3 hY4) l_L_121 m_X9_away rfl rfl (by decide) dL_law_931 hP hS hl.1 (fun v M1 H1 locs1 Qm hT hcm hfin hP hS => ?_)
      obtain ⟨x9, rfl⟩ := hT
      refine lv_aload_n hx hb dL_law_934 rfl (lv_at hl 2 rfl) ?_
      refine lv_aload_n hx hb dL_law_935 rfl (lv_at hl 0 rfl) ?_
      refine lv_iload_n hx hb dL_law_936 rfl (lv_at hl 3 rfl) ?_
      refine lv_iconst (v := 1) hx hb dL_law_937 (by decide) ?_
      refine lv_iadd hx hb dL_law_938 ?_
      rw [f1]
      refine va_sld hx hb hX hbl hbA hS (vp_in_nI (n := i + 1) (by omega) (by omega)) dL_law_939 ?_
      rw [← e1]
      refine lv_aload_n hx hb dL_law_940 rfl (lv_at hl 0 rfl) ?_
      refine lv_iload_n hx hb dL_law_941 rfl (lv_at hl 3 rfl) ?_
      refine lv_iconst (v := 2) hx hb dL_law_942 (by decide) ?_
      refine lv_iadd hx hb dL_law_943 ?_
      rw [f2]
      refine va_sld hx hb hX hbl hbA hS (vp_in_nI (n := i + 2) (by omega) (by omega)) dL_law_944 ?_
      rw [← e2]
      refine lv_aload_n hx hb dL_law_945 rfl (lv_at hl 0 rfl) ?_
      refine lv_iload_n hx hb dL_law_946 rfl (lv_at hl 3 rfl) ?_
      refine lv_iconst (v := 3) hx hb dL_law_947 (by decide) ?_
      refine lv_iadd hx hb dL_law_948 ?_
      rw [f3]
      refine va_sld hx hb hX hbl hbA hS (vp_in_nI (n := i + 3) (by omega) (by omega)) dL_law_949 ?_
      rw [← e3]
      refine lv_aload_n hx hb dL_law_950 rfl (lv_at hl 0 rfl) ?_
      refine lv_iload_n hx hb dL_law_951 rfl (lv_at hl 3 rfl) ?_
      refine lv_iconst (v := 4) hx hb dL_law_952 (by decide) ?_
      refine lv_iadd hx hb dL_law_953 ?_
      rw [f4]
      refine va_sld hx hb hX hbl hbA hS (vp_in_nI (n := i + 4) (by omega) (by omega)) dL_law_954 ?_
      rw [← e4]
      refine law_c2 C1 hcm hfin l_L_125 m_X10_away rfl rfl (by decide) dL_law_955 (Nat.le_of_ble_eq_true rfl) hP hS hl.1 (fun M2 H2 locs2 hI2 hP hS => ?_)
      refine W.lcmp hx hb dL_law_958 ?_
      rw [show lg_cmp x9 x9 = 0 from lg_self x9]
      exact lv_if_eq (tgt := 1442) hx hb dL_law_959 (by decide) (fun _ => nxt _ _ _ hI2 hP hS) (fun h9 => absurd rfl h9)
    · refine lv_tableIn (off := 932) (tgt := 964) hx hb dL_law_32 (by rw [hzt]; omega) (by rw [hzt]; omega) (by rw [hzt, hsw]; rfl) (by decide) ?_
      refine lv_aload_n hx hb dL_law_964 rfl (lv_at hl 1 rfl) ?_
      refine lv_aload_n hx hb dL_law_965 rfl (lv_at hl 0 rfl) ?_
      refine lv_iload_n hx hb dL_law_966 rfl (lv_at hl 3 rfl) ?_
      refine lv_iconst (v := 1) hx hb dL_law_967 (by decide) ?_
      refine lv_iadd hx hb dL_law_968 ?_
      rw [f1]
      refine va_sld hx hb hX hbl hbA hS (vp_in_nI (n := i + 1) (by omega) (by omega)) dL_law_969 ?_
      rw [← e1]
      refine lv_aload_n hx hb dL_law_970 rfl (lv_at hl 0 rfl) ?_
      refine lv_iload_n hx hb dL_law_971 rfl (lv_at hl 3 rfl) ?_
      refine lv_iconst (v := 2) hx hb dL_law_972 (by decide) ?_
      refine lv_iadd hx hb dL_law_973 ?_
      rw [f2]
      refine va_sld hx hb hX hbl hbA hS (vp_in_nI (n := i + 2) (by omega) (by omega)) dL_law_974 ?_
      rw [← e2]
      refine law_c1 C1 (p_crowd hI hY1 hY2) l_L_126 m_X9_crowd rfl rfl (by decide) dL_law_975 hP hS hl.1 (fun v M1 H1 locs1 Qm hT hcm hfin hP hS => ?_)
      obtain ⟨x9, rfl⟩ := hT
      refine lv_aload_n hx hb dL_law_978 rfl (lv_at hl 2 rfl) ?_
      refine lv_aload_n hx hb dL_law_979 rfl (lv_at hl 0 rfl) ?_
      refine lv_iload_n hx hb dL_law_980 rfl (lv_at hl 3 rfl) ?_
      refine lv_iconst (v := 1) hx hb dL_law_981 (by decide) ?_
      refine lv_iadd hx hb dL_law_982 ?_
      rw [f1]
      refine va_sld hx hb hX hbl hbA hS (vp_in_nI (n := i + 1) (by omega) (by omega)) dL_law_983 ?_
      rw [← e1]
      refine lv_aload_n hx hb dL_law_984 rfl (lv_at hl 0 rfl) ?_
      refine lv_iload_n hx hb dL_law_985 rfl (lv_at hl 3 rfl) ?_
      refine lv_iconst (v := 2) hx hb dL_law_986 (by decide) ?_
      refine lv_iadd hx hb dL_law_987 ?_
      rw [f2]
      refine va_sld hx hb hX hbl hbA hS (vp_in_nI (n := i + 2) (by omega) (by omega)) dL_law_988 ?_
      rw [← e2]
      refine law_c2 C1 hcm hfin l_L_129 m_X10_crowd rfl rfl (by decide) dL_law_989 (Nat.le_of_ble_eq_true rfl) hP hS hl.1 (fun M2 H2 locs2 hI2 hP hS => ?_)
      exact lv_icmp_eq (tgt := 1442) hx hb dL_law_992 (by decide) (fun _ => nxt _ _ _ hI2 hP hS) (fun h9 => absurd rfl h9)
    · refine lv_tableIn (off := 965) (tgt := 997) hx hb dL_law_32 (by rw [hzt]; omega) (by rw [hzt]; omega) (by rw [hzt, hsw]; rfl) (by decide) ?_
      refine lv_aload_n hx hb dL_law_997 rfl (lv_at hl 1 rfl) ?_
      refine lv_aload_n hx hb dL_law_998 rfl (lv_at hl 0 rfl) ?_
      refine lv_iload_n hx hb dL_law_999 rfl (lv_at hl 3 rfl) ?_
      refine lv_iconst (v := 1) hx hb dL_law_1000 (by decide) ?_
      refine lv_iadd hx hb dL_law_1001 ?_
      rw [f1]
      refine va_sld hx hb hX hbl hbA hS (vp_in_nI (n := i + 1) (by omega) (by omega)) dL_law_1002 ?_
      rw [← e1]
      refine law_c1 C1 (p_caller hI hY1) l_L_130 m_X9_caller rfl rfl (by decide) dL_law_1003 hP hS hl.1 (fun v M1 H1 locs1 Qm hT hcm hfin hP hS => ?_)
      obtain ⟨x9, rfl⟩ := hT
      refine lv_aload_n hx hb dL_law_1006 rfl (lv_at hl 2 rfl) ?_
      refine lv_aload_n hx hb dL_law_1007 rfl (lv_at hl 0 rfl) ?_
      refine lv_iload_n hx hb dL_law_1008 rfl (lv_at hl 3 rfl) ?_
      refine lv_iconst (v := 1) hx hb dL_law_1009 (by decide) ?_
      refine lv_iadd hx hb dL_law_1010 ?_
      rw [f1]
      refine va_sld hx hb hX hbl hbA hS (vp_in_nI (n := i + 1) (by omega) (by omega)) dL_law_1011 ?_
      rw [← e1]
      refine law_c2 C1 hcm hfin l_L_133 m_X10_caller rfl rfl (by decide) dL_law_1012 (Nat.le_of_ble_eq_true rfl) hP hS hl.1 (fun M2 H2 locs2 hI2 hP hS => ?_)
      exact lv_icmp_eq (tgt := 1442) hx hb dL_law_1015 (by decide) (fun _ => nxt _ _ _ hI2 hP hS) (fun h9 => absurd rfl h9)
    · refine lv_tableIn (off := 988) (tgt := 1020) hx hb dL_law_32 (by rw [hzt]; omega) (by rw [hzt]; omega) (by rw [hzt, hsw]; rfl) (by decide) ?_
      refine lv_aload_n hx hb dL_law_1020 rfl (lv_at hl 1 rfl) ?_
      refine law_c1 C1 (p_stuck hI) l_L_134 m_X9_stuck rfl rfl (by decide) dL_law_1021 hP hS hl.1 (fun v M1 H1 locs1 Qm hT hcm hfin hP hS => ?_)
      obtain ⟨x9, rfl⟩ := hT
      refine lv_aload_n hx hb dL_law_1024 rfl (lv_at hl 2 rfl) ?_
      refine law_c2 C1 hcm hfin l_L_137 m_X10_stuck rfl rfl (by decide) dL_law_1025 (Nat.le_of_ble_eq_true rfl) hP hS hl.1 (fun M2 H2 locs2 hI2 hP hS => ?_)
      exact lv_icmp_eq (tgt := 1442) hx hb dL_law_1028 (by decide) (fun _ => nxt _ _ _ hI2 hP hS) (fun h9 => absurd rfl h9)
    · refine lv_tableIn (off := 1001) (tgt := 1033) hx hb dL_law_32 (by rw [hzt]; omega) (by rw [hzt]; omega) (by rw [hzt, hsw]; rfl) (by decide) ?_
      refine lv_aload_n hx hb dL_law_1033 rfl (lv_at hl 1 rfl) ?_
      refine lv_aload_n hx hb dL_law_1034 rfl (lv_at hl 0 rfl) ?_
      refine lv_iload_n hx hb dL_law_1035 rfl (lv_at hl 3 rfl) ?_
      refine lv_iconst (v := 1) hx hb dL_law_1036 (by decide) ?_
      refine lv_iadd hx hb dL_law_1037 ?_
      rw [f1]
      refine va_sld hx hb hX hbl hbA hS (vp_in_nI (n := i + 1) (by omega) (by omega)) dL_law_1038 ?_
      rw [← e1]
      refine lv_aload_n hx hb dL_law_1039 rfl (lv_at hl 0 rfl) ?_
      refine lv_iload_n hx hb dL_law_1040 rfl (lv_at hl 3 rfl) ?_
      refine lv_iconst (v := 2) hx hb dL_law_1041 (by decide) ?_
      refine lv_iadd hx hb dL_law_1042 ?_
      rw [f2]
      refine va_sld hx hb hX hbl hbA hS (vp_in_nI (n := i + 2) (by omega) (by omega)) dL_law_1043 ?_
      rw [← e2]
      refine law_c1 C1 (p_longest hI hY1 hY2) l_L_138 m_X9_longest rfl rfl (by decide) dL_law_1044 hP hS hl.1 (fun v M1 H1 locs1 Qm hT hcm hfin hP hS => ?_)
      obtain ⟨x9, rfl⟩ := hT
      refine lv_aload_n hx hb dL_law_1047 rfl (lv_at hl 2 rfl) ?_
      refine lv_aload_n hx hb dL_law_1048 rfl (lv_at hl 0 rfl) ?_
      refine lv_iload_n hx hb dL_law_1049 rfl (lv_at hl 3 rfl) ?_
      refine lv_iconst (v := 1) hx hb dL_law_1050 (by decide) ?_
      refine lv_iadd hx hb dL_law_1051 ?_
      rw [f1]
      refine va_sld hx hb hX hbl hbA hS (vp_in_nI (n := i + 1) (by omega) (by omega)) dL_law_1052 ?_
      rw [← e1]
      refine lv_aload_n hx hb dL_law_1053 rfl (lv_at hl 0 rfl) ?_
      refine lv_iload_n hx hb dL_law_1054 rfl (lv_at hl 3 rfl) ?_
      refine lv_iconst (v := 2) hx hb dL_law_1055 (by decide) ?_
      refine lv_iadd hx hb dL_law_1056 ?_
      rw [f2]
      refine va_sld hx hb hX hbl hbA hS (vp_in_nI (n := i + 2) (by omega) (by omega)) dL_law_1057 ?_
      rw [← e2]
      refine law_c2 C1 hcm hfin l_L_141 m_X10_longest rfl rfl (by decide) dL_law_1058 (Nat.le_of_ble_eq_true rfl) hP hS hl.1 (fun M2 H2 locs2 hI2 hP hS => ?_)
      exact lv_icmp_eq (tgt := 1442) hx hb dL_law_1061 (by decide) (fun _ => nxt _ _ _ hI2 hP hS) (fun h9 => absurd rfl h9)
    · refine lv_tableIn (off := 1034) (tgt := 1066) hx hb dL_law_32 (by rw [hzt]; omega) (by rw [hzt]; omega) (by rw [hzt, hsw]; rfl) (by decide) ?_
      refine lv_aload_n hx hb dL_law_1066 rfl (lv_at hl 1 rfl) ?_
      refine lv_aload_n hx hb dL_law_1067 rfl (lv_at hl 0 rfl) ?_
      refine lv_iload_n hx hb dL_law_1068 rfl (lv_at hl 3 rfl) ?_
      refine lv_iconst (v := 1) hx hb dL_law_1069 (by decide) ?_
      refine lv_iadd hx hb dL_law_1070 ?_
      rw [f1]
      refine va_sld hx hb hX hbl hbA hS (vp_in_nI (n := i + 1) (by omega) (by omega)) dL_law_1071 ?_
      rw [← e1]
      refine law_c1 C1 (p_leaver hI hY1) l_L_142 m_X9_leaver rfl rfl (by decide) dL_law_1072 hP hS hl.1 (fun v M1 H1 locs1 Qm hT hcm hfin hP hS => ?_)
      obtain ⟨x9, rfl⟩ := hT
      refine lv_aload_n hx hb dL_law_1075 rfl (lv_at hl 2 rfl) ?_
      refine lv_aload_n hx hb dL_law_1076 rfl (lv_at hl 0 rfl) ?_
      refine lv_iload_n hx hb dL_law_1077 rfl (lv_at hl 3 rfl) ?_
      refine lv_iconst (v := 1) hx hb dL_law_1078 (by decide) ?_
      refine lv_iadd hx hb dL_law_1079 ?_
      rw [f1]
      refine va_sld hx hb hX hbl hbA hS (vp_in_nI (n := i + 1) (by omega) (by omega)) dL_law_1080 ?_
      rw [← e1]
      refine law_c2 C1 hcm hfin l_L_145 m_X10_leaver rfl rfl (by decide) dL_law_1081 (Nat.le_of_ble_eq_true rfl) hP hS hl.1 (fun M2 H2 locs2 hI2 hP hS => ?_)
      exact lv_icmp_eq (tgt := 1442) hx hb dL_law_1084 (by decide) (fun _ => nxt _ _ _ hI2 hP hS) (fun h9 => absurd rfl h9)
    · refine lv_tableIn (off := 1057) (tgt := 1089) hx hb dL_law_32 (by rw [hzt]; omega) (by rw [hzt]; omega) (by rw [hzt, hsw]; rfl) (by decide) ?_
      refine lv_aload_n hx hb dL_law_1089 rfl (lv_at hl 1 rfl) ?_
      refine lv_aload_n hx hb dL_law_1090 rfl (lv_at hl 0 rfl) ?_
      refine lv_iload_n hx hb dL_law_1091 rfl (lv_at hl 3 rfl) ?_
      refine lv_iconst (v := 1) hx hb dL_law_1092 (by decide) ?_
      refine lv_iadd hx hb dL_law_1093 ?_
      rw [f1]
      refine va_sld hx hb hX hbl hbA hS (vp_in_nI (n := i + 1) (by omega) (by omega)) dL_law_1094 ?_
      rw [← e1]
      refine lv_aload_n hx hb dL_law_1095 rfl (lv_at hl 0 rfl) ?_
      refine lv_iload_n hx hb dL_law_1096 rfl (lv_at hl 3 rfl) ?_
      refine lv_iconst (v := 2) hx hb dL_law_1097 (by decide) ?_
      refine lv_iadd hx hb dL_law_1098 ?_
      rw [f2]
      refine va_sld hx hb hX hbl hbA hS (vp_in_nI (n := i + 2) (by omega) (by omega)) dL_law_1099 ?_
      rw [← e2]
      refine law_c1 C1 (p_waited hI hY1 hY2) l_L_146 m_X9_waited rfl rfl (by decide) dL_law_1100 hP hS hl.1 (fun v M1 H1 locs1 Qm hT hcm hfin hP hS => ?_)
      obtain ⟨x9, rfl⟩ := hT
      refine lv_aload_n hx hb dL_law_1103 rfl (lv_at hl 2 rfl) ?_
      refine lv_aload_n hx hb dL_law_1104 rfl (lv_at hl 0 rfl) ?_
      refine lv_iload_n hx hb dL_law_1105 rfl (lv_at hl 3 rfl) ?_
      refine lv_iconst (v := 1) hx hb dL_law_1106 (by decide) ?_
      refine lv_iadd hx hb dL_law_1107 ?_
      rw [f1]
      refine va_sld hx hb hX hbl hbA hS (vp_in_nI (n := i + 1) (by omega) (by omega)) dL_law_1108 ?_
      rw [← e1]
      refine lv_aload_n hx hb dL_law_1109 rfl (lv_at hl 0 rfl) ?_
      refine lv_iload_n hx hb dL_law_1110 rfl (lv_at hl 3 rfl) ?_
      refine lv_iconst (v := 2) hx hb dL_law_1111 (by decide) ?_
      refine lv_iadd hx hb dL_law_1112 ?_
      rw [f2]
      refine va_sld hx hb hX hbl hbA hS (vp_in_nI (n := i + 2) (by omega) (by omega)) dL_law_1113 ?_
      rw [← e2]
      refine law_c2 C1 hcm hfin l_L_149 m_X10_waited rfl rfl (by decide) dL_law_1114 (Nat.le_of_ble_eq_true rfl) hP hS hl.1 (fun M2 H2 locs2 hI2 hP hS => ?_)
      exact lv_icmp_eq (tgt := 1442) hx hb dL_law_1117 (by decide) (fun _ => nxt _ _ _ hI2 hP hS) (fun h9 => absurd rfl h9)
    · refine lv_tableIn (off := 1090) (tgt := 1122) hx hb dL_law_32 (by rw [hzt]; omega) (by rw [hzt]; omega) (by rw [hzt, hsw]; rfl) (by decide) ?_
      refine lv_aload_n hx hb dL_law_1122 rfl (lv_at hl 1 rfl) ?_
      refine lv_aload_n hx hb dL_law_1123 rfl (lv_at hl 0 rfl) ?_
      refine lv_iload_n hx hb dL_law_1124 rfl (lv_at hl 3 rfl) ?_
      refine lv_iconst (v := 1) hx hb dL_law_1125 (by decide) ?_
      refine lv_iadd hx hb dL_law_1126 ?_
      rw [f1]
      refine va_sld hx hb hX hbl hbA hS (vp_in_nI (n := i + 1) (by omega) (by omega)) dL_law_1127 ?_
      rw [← e1]
      refine lv_aload_n hx hb dL_law_1128 rfl (lv_at hl 0 rfl) ?_
      refine lv_iload_n hx hb dL_law_1129 rfl (lv_at hl 3 rfl) ?_
      refine lv_iconst (v := 2) hx hb dL_law_1130 (by decide) ?_
      refine lv_iadd hx hb dL_law_1131 ?_
      rw [f2]
      refine va_sld hx hb hX hbl hbA hS (vp_in_nI (n := i + 2) (by omega) (by omega)) dL_law_1132 ?_
      rw [← e2]
      refine law_c1 C1 (p_bestOf hI hY1 hY2) l_L_150 m_X9_bestOf rfl rfl (by decide) dL_law_1133 hP hS hl.1 (fun v M1 H1 locs1 Qm hT hcm hfin hP hS => ?_)
      obtain ⟨x9, rfl⟩ := hT
      refine lv_aload_n hx hb dL_law_1136 rfl (lv_at hl 2 rfl) ?_
      refine lv_aload_n hx hb dL_law_1137 rfl (lv_at hl 0 rfl) ?_
      refine lv_iload_n hx hb dL_law_1138 rfl (lv_at hl 3 rfl) ?_
      refine lv_iconst (v := 1) hx hb dL_law_1139 (by decide) ?_
      refine lv_iadd hx hb dL_law_1140 ?_
      rw [f1]
      refine va_sld hx hb hX hbl hbA hS (vp_in_nI (n := i + 1) (by omega) (by omega)) dL_law_1141 ?_
      rw [← e1]
      refine lv_aload_n hx hb dL_law_1142 rfl (lv_at hl 0 rfl) ?_
      refine lv_iload_n hx hb dL_law_1143 rfl (lv_at hl 3 rfl) ?_
      refine lv_iconst (v := 2) hx hb dL_law_1144 (by decide) ?_
      refine lv_iadd hx hb dL_law_1145 ?_
      rw [f2]
      refine va_sld hx hb hX hbl hbA hS (vp_in_nI (n := i + 2) (by omega) (by omega)) dL_law_1146 ?_
      rw [← e2]
      refine law_c2 C1 hcm hfin l_L_153 m_X10_bestOf rfl rfl (by decide) dL_law_1147 (Nat.le_of_ble_eq_true rfl) hP hS hl.1 (fun M2 H2 locs2 hI2 hP hS => ?_)
      exact lv_icmp_eq (tgt := 1442) hx hb dL_law_1150 (by decide) (fun _ => nxt _ _ _ hI2 hP hS) (fun h9 => absurd rfl h9)
    · refine lv_tableIn (off := 1123) (tgt := 1155) hx hb dL_law_32 (by rw [hzt]; omega) (by rw [hzt]; omega) (by rw [hzt, hsw]; rfl) (by decide) ?_
      refine lv_aload_n hx hb dL_law_1155 rfl (lv_at hl 1 rfl) ?_
      refine lv_aload_n hx hb dL_law_1156 rfl (lv_at hl 0 rfl) ?_
      refine lv_iload_n hx hb dL_law_1157 rfl (lv_at hl 3 rfl) ?_
      refine lv_iconst (v := 1) hx hb dL_law_1158 (by decide) ?_
      refine lv_iadd hx hb dL_law_1159 ?_
      rw [f1]
      refine va_sld hx hb hX hbl hbA hS (vp_in_nI (n := i + 1) (by omega) (by omega)) dL_law_1160 ?_
      rw [← e1]
      refine law_c1 C1 (p_kept hI hY1) l_L_154 m_X9_kept rfl rfl (by decide) dL_law_1161 hP hS hl.1 (fun v M1 H1 locs1 Qm hT hcm hfin hP hS => ?_)
      obtain ⟨x9, rfl⟩ := hT
      refine lv_aload_n hx hb dL_law_1164 rfl (lv_at hl 2 rfl) ?_
      refine lv_aload_n hx hb dL_law_1165 rfl (lv_at hl 0 rfl) ?_
      refine lv_iload_n hx hb dL_law_1166 rfl (lv_at hl 3 rfl) ?_
      refine lv_iconst (v := 1) hx hb dL_law_1167 (by decide) ?_
      refine lv_iadd hx hb dL_law_1168 ?_
      rw [f1]
      refine va_sld hx hb hX hbl hbA hS (vp_in_nI (n := i + 1) (by omega) (by omega)) dL_law_1169 ?_
      rw [← e1]
      refine law_c2 C1 hcm hfin l_L_157 m_X10_kept rfl rfl (by decide) dL_law_1170 (Nat.le_of_ble_eq_true rfl) hP hS hl.1 (fun M2 H2 locs2 hI2 hP hS => ?_)
      exact lv_icmp_eq (tgt := 1442) hx hb dL_law_1173 (by decide) (fun _ => nxt _ _ _ hI2 hP hS) (fun h9 => absurd rfl h9)
    · refine lv_tableIn (off := 1146) (tgt := 1178) hx hb dL_law_32 (by rw [hzt]; omega) (by rw [hzt]; omega) (by rw [hzt, hsw]; rfl) (by decide) ?_
      refine lv_aload_n hx hb dL_law_1178 rfl (lv_at hl 1 rfl) ?_
      refine lv_aload_n hx hb dL_law_1179 rfl (lv_at hl 0 rfl) ?_
      refine lv_iload_n hx hb dL_law_1180 rfl (lv_at hl 3 rfl) ?_
      refine lv_iconst (v := 1) hx hb dL_law_1181 (by decide) ?_
      refine lv_iadd hx hb dL_law_1182 ?_
      rw [f1]
      refine va_sld hx hb hX hbl hbA hS (vp_in_nI (n := i + 1) (by omega) (by omega)) dL_law_1183 ?_
      rw [← e1]
      refine law_c1 C1 (p_dry hI hY1) l_L_158 m_X9_dry rfl rfl (by decide) dL_law_1184 hP hS hl.1 (fun v M1 H1 locs1 Qm hT hcm hfin hP hS => ?_)
      obtain ⟨x9, rfl⟩ := hT
      refine lv_aload_n hx hb dL_law_1187 rfl (lv_at hl 2 rfl) ?_
      refine lv_aload_n hx hb dL_law_1188 rfl (lv_at hl 0 rfl) ?_
      refine lv_iload_n hx hb dL_law_1189 rfl (lv_at hl 3 rfl) ?_
      refine lv_iconst (v := 1) hx hb dL_law_1190 (by decide) ?_
      refine lv_iadd hx hb dL_law_1191 ?_
      rw [f1]
      refine va_sld hx hb hX hbl hbA hS (vp_in_nI (n := i + 1) (by omega) (by omega)) dL_law_1192 ?_
      rw [← e1]
      refine law_c2 C1 hcm hfin l_L_161 m_X10_dry rfl rfl (by decide) dL_law_1193 (Nat.le_of_ble_eq_true rfl) hP hS hl.1 (fun M2 H2 locs2 hI2 hP hS => ?_)
      exact lv_icmp_eq (tgt := 1442) hx hb dL_law_1196 (by decide) (fun _ => nxt _ _ _ hI2 hP hS) (fun h9 => absurd rfl h9)
    · refine lv_tableIn (off := 1169) (tgt := 1201) hx hb dL_law_32 (by rw [hzt]; omega) (by rw [hzt]; omega) (by rw [hzt, hsw]; rfl) (by decide) ?_
      refine lv_aload_n hx hb dL_law_1201 rfl (lv_at hl 1 rfl) ?_
      refine lv_aload_n hx hb dL_law_1202 rfl (lv_at hl 0 rfl) ?_
      refine lv_iload_n hx hb dL_law_1203 rfl (lv_at hl 3 rfl) ?_
      refine lv_iconst (v := 1) hx hb dL_law_1204 (by decide) ?_
      refine lv_iadd hx hb dL_law_1205 ?_
      rw [f1]
      refine va_sld hx hb hX hbl hbA hS (vp_in_nI (n := i + 1) (by omega) (by omega)) dL_law_1206 ?_
      rw [← e1]
      refine lv_aload_n hx hb dL_law_1207 rfl (lv_at hl 0 rfl) ?_
      refine lv_iload_n hx hb dL_law_1208 rfl (lv_at hl 3 rfl) ?_
      refine lv_iconst (v := 2) hx hb dL_law_1209 (by decide) ?_
      refine lv_iadd hx hb dL_law_1210 ?_
      rw [f2]
      refine va_sld hx hb hX hbl hbA hS (vp_in_nI (n := i + 2) (by omega) (by omega)) dL_law_1211 ?_
      rw [← e2]
      refine lv_aload_n hx hb dL_law_1212 rfl (lv_at hl 0 rfl) ?_
      refine lv_iload_n hx hb dL_law_1213 rfl (lv_at hl 3 rfl) ?_
      refine lv_iconst (v := 3) hx hb dL_law_1214 (by decide) ?_
      refine lv_iadd hx hb dL_law_1215 ?_
      rw [f3]
      refine va_sld hx hb hX hbl hbA hS (vp_in_nI (n := i + 3) (by omega) (by omega)) dL_law_1216 ?_
      rw [← e3]
      refine law_c1 C1 (p_company hI hY1 hY2 hY3) l_L_162 m_X9_company rfl rfl (by decide) dL_law_1217 hP hS hl.1 (fun v M1 H1 locs1 Qm hT hcm hfin hP hS => ?_)
      obtain ⟨x9, rfl⟩ := hT
      refine lv_aload_n hx hb dL_law_1220 rfl (lv_at hl 2 rfl) ?_
      refine lv_aload_n hx hb dL_law_1221 rfl (lv_at hl 0 rfl) ?_
      refine lv_iload_n hx hb dL_law_1222 rfl (lv_at hl 3 rfl) ?_
      refine lv_iconst (v := 1) hx hb dL_law_1223 (by decide) ?_
      refine lv_iadd hx hb dL_law_1224 ?_
      rw [f1]
      refine va_sld hx hb hX hbl hbA hS (vp_in_nI (n := i + 1) (by omega) (by omega)) dL_law_1225 ?_
      rw [← e1]
      refine lv_aload_n hx hb dL_law_1226 rfl (lv_at hl 0 rfl) ?_
      refine lv_iload_n hx hb dL_law_1227 rfl (lv_at hl 3 rfl) ?_
      refine lv_iconst (v := 2) hx hb dL_law_1228 (by decide) ?_
      refine lv_iadd hx hb dL_law_1229 ?_
      rw [f2]
      refine va_sld hx hb hX hbl hbA hS (vp_in_nI (n := i + 2) (by omega) (by omega)) dL_law_1230 ?_
      rw [← e2]
      refine lv_aload_n hx hb dL_law_1231 rfl (lv_at hl 0 rfl) ?_
      refine lv_iload_n hx hb dL_law_1232 rfl (lv_at hl 3 rfl) ?_
      refine lv_iconst (v := 3) hx hb dL_law_1233 (by decide) ?_
      refine lv_iadd hx hb dL_law_1234 ?_
      rw [f3]
      refine va_sld hx hb hX hbl hbA hS (vp_in_nI (n := i + 3) (by omega) (by omega)) dL_law_1235 ?_
      rw [← e3]
      refine law_c2 C1 hcm hfin l_L_165 m_X10_company rfl rfl (by decide) dL_law_1236 (Nat.le_of_ble_eq_true rfl) hP hS hl.1 (fun M2 H2 locs2 hI2 hP hS => ?_)
      exact lv_icmp_eq (tgt := 1442) hx hb dL_law_1239 (by decide) (fun _ => nxt _ _ _ hI2 hP hS) (fun h9 => absurd rfl h9)
    · refine lv_tableIn (off := 1212) (tgt := 1244) hx hb dL_law_32 (by rw [hzt]; omega) (by rw [hzt]; omega) (by rw [hzt, hsw]; rfl) (by decide) ?_
      refine lv_aload_n hx hb dL_law_1244 rfl (lv_at hl 1 rfl) ?_
      refine lv_aload_n hx hb dL_law_1245 rfl (lv_at hl 0 rfl) ?_
      refine lv_iload_n hx hb dL_law_1246 rfl (lv_at hl 3 rfl) ?_
      refine lv_iconst (v := 1) hx hb dL_law_1247 (by decide) ?_
      refine lv_iadd hx hb dL_law_1248 ?_
      rw [f1]
      refine va_sld hx hb hX hbl hbA hS (vp_in_nI (n := i + 1) (by omega) (by omega)) dL_law_1249 ?_
      rw [← e1]
      refine law_c1 C1 (p_mean hI hY1) l_L_166 m_X9_mean rfl rfl (by decide) dL_law_1250 hP hS hl.1 (fun v M1 H1 locs1 Qm hT hcm hfin hP hS => ?_)
      obtain ⟨x9, rfl⟩ := hT
      refine lv_aload_n hx hb dL_law_1253 rfl (lv_at hl 2 rfl) ?_
      refine lv_aload_n hx hb dL_law_1254 rfl (lv_at hl 0 rfl) ?_
      refine lv_iload_n hx hb dL_law_1255 rfl (lv_at hl 3 rfl) ?_
      refine lv_iconst (v := 1) hx hb dL_law_1256 (by decide) ?_
      refine lv_iadd hx hb dL_law_1257 ?_
      rw [f1]
      refine va_sld hx hb hX hbl hbA hS (vp_in_nI (n := i + 1) (by omega) (by omega)) dL_law_1258 ?_
      rw [← e1]
      refine law_c2 C1 hcm hfin l_L_170 m_X10_mean rfl rfl (by decide) dL_law_1259 (Nat.le_of_ble_eq_true rfl) hP hS hl.1 (fun M2 H2 locs2 hI2 hP hS => ?_)
      refine W.lcmp hx hb dL_law_1262 ?_
      rw [show lg_cmp x9 x9 = 0 from lg_self x9]
      exact lv_if_eq (tgt := 1442) hx hb dL_law_1263 (by decide) (fun _ => nxt _ _ _ hI2 hP hS) (fun h9 => absurd rfl h9)
    · refine lv_tableIn (off := 1236) (tgt := 1268) hx hb dL_law_32 (by rw [hzt]; omega) (by rw [hzt]; omega) (by rw [hzt, hsw]; rfl) (by decide) ?_
      refine lv_aload_n hx hb dL_law_1268 rfl (lv_at hl 1 rfl) ?_
      refine lv_aload_n hx hb dL_law_1269 rfl (lv_at hl 0 rfl) ?_
      refine lv_iload_n hx hb dL_law_1270 rfl (lv_at hl 3 rfl) ?_
      refine lv_iconst (v := 1) hx hb dL_law_1271 (by decide) ?_
      refine lv_iadd hx hb dL_law_1272 ?_
      rw [f1]
      refine va_sld hx hb hX hbl hbA hS (vp_in_nI (n := i + 1) (by omega) (by omega)) dL_law_1273 ?_
      rw [← e1]
      refine law_c1 C1 (p_hostess hI hY1) l_L_171 m_X9_hostess rfl rfl (by decide) dL_law_1274 hP hS hl.1 (fun v M1 H1 locs1 Qm hT hcm hfin hP hS => ?_)
      obtain ⟨x9, rfl⟩ := hT
      refine lv_aload_n hx hb dL_law_1277 rfl (lv_at hl 2 rfl) ?_
      refine lv_aload_n hx hb dL_law_1278 rfl (lv_at hl 0 rfl) ?_
      refine lv_iload_n hx hb dL_law_1279 rfl (lv_at hl 3 rfl) ?_
      refine lv_iconst (v := 1) hx hb dL_law_1280 (by decide) ?_
      refine lv_iadd hx hb dL_law_1281 ?_
      rw [f1]
      refine va_sld hx hb hX hbl hbA hS (vp_in_nI (n := i + 1) (by omega) (by omega)) dL_law_1282 ?_
      rw [← e1]
      refine law_c2 C1 hcm hfin l_L_174 m_X10_hostess rfl rfl (by decide) dL_law_1283 (Nat.le_of_ble_eq_true rfl) hP hS hl.1 (fun M2 H2 locs2 hI2 hP hS => ?_)
      exact lv_icmp_eq (tgt := 1442) hx hb dL_law_1286 (by decide) (fun _ => nxt _ _ _ hI2 hP hS) (fun h9 => absurd rfl h9)
    · refine lv_tableIn (off := 1259) (tgt := 1291) hx hb dL_law_32 (by rw [hzt]; omega) (by rw [hzt]; omega) (by rw [hzt, hsw]; rfl) (by decide) ?_
      refine lv_aload_n hx hb dL_law_1291 rfl (lv_at hl 1 rfl) ?_
      refine lv_aload_n hx hb dL_law_1292 rfl (lv_at hl 0 rfl) ?_
      refine lv_iload_n hx hb dL_law_1293 rfl (lv_at hl 3 rfl) ?_
      refine lv_iconst (v := 1) hx hb dL_law_1294 (by decide) ?_
      refine lv_iadd hx hb dL_law_1295 ?_
      rw [f1]
      refine va_sld hx hb hX hbl hbA hS (vp_in_nI (n := i + 1) (by omega) (by omega)) dL_law_1296 ?_
      rw [← e1]
      refine law_c1 C1 (p_row hI hY1) l_L_175 m_X9_row rfl rfl (by decide) dL_law_1297 hP hS hl.1 (fun v M1 H1 locs1 Qm hT hcm hfin hP hS => ?_)
      obtain ⟨x9, rfl⟩ := hT
      refine lv_aload_n hx hb dL_law_1300 rfl (lv_at hl 2 rfl) ?_
      refine lv_aload_n hx hb dL_law_1301 rfl (lv_at hl 0 rfl) ?_
      refine lv_iload_n hx hb dL_law_1302 rfl (lv_at hl 3 rfl) ?_
      refine lv_iconst (v := 1) hx hb dL_law_1303 (by decide) ?_
      refine lv_iadd hx hb dL_law_1304 ?_
      rw [f1]
      refine va_sld hx hb hX hbl hbA hS (vp_in_nI (n := i + 1) (by omega) (by omega)) dL_law_1305 ?_
      rw [← e1]
      refine law_c2 C1 hcm hfin l_L_178 m_X10_row rfl rfl (by decide) dL_law_1306 (Nat.le_of_ble_eq_true rfl) hP hS hl.1 (fun M2 H2 locs2 hI2 hP hS => ?_)
      exact lv_icmp_eq (tgt := 1442) hx hb dL_law_1309 (by decide) (fun _ => nxt _ _ _ hI2 hP hS) (fun h9 => absurd rfl h9)
    · refine lv_tableIn (off := 1282) (tgt := 1314) hx hb dL_law_32 (by rw [hzt]; omega) (by rw [hzt]; omega) (by rw [hzt, hsw]; rfl) (by decide) ?_
      refine lv_aload_n hx hb dL_law_1314 rfl (lv_at hl 1 rfl) ?_
      refine lv_aload_n hx hb dL_law_1315 rfl (lv_at hl 0 rfl) ?_
      refine lv_iload_n hx hb dL_law_1316 rfl (lv_at hl 3 rfl) ?_
      refine lv_iconst (v := 1) hx hb dL_law_1317 (by decide) ?_
      refine lv_iadd hx hb dL_law_1318 ?_
      rw [f1]
      refine va_sld hx hb hX hbl hbA hS (vp_in_nI (n := i + 1) (by omega) (by omega)) dL_law_1319 ?_
      rw [← e1]
      refine law_c1 C1 (p_judge hI hY1) l_L_179 m_X9_judge rfl rfl (by decide) dL_law_1320 hP hS hl.1 (fun v M1 H1 locs1 Qm hT hcm hfin hP hS => ?_)
      obtain ⟨x9, rfl⟩ := hT
      refine lv_aload_n hx hb dL_law_1323 rfl (lv_at hl 2 rfl) ?_
      refine lv_aload_n hx hb dL_law_1324 rfl (lv_at hl 0 rfl) ?_
      refine lv_iload_n hx hb dL_law_1325 rfl (lv_at hl 3 rfl) ?_
      refine lv_iconst (v := 1) hx hb dL_law_1326 (by decide) ?_
      refine lv_iadd hx hb dL_law_1327 ?_
      rw [f1]
      refine va_sld hx hb hX hbl hbA hS (vp_in_nI (n := i + 1) (by omega) (by omega)) dL_law_1328 ?_
      rw [← e1]
      refine law_c2 C1 hcm hfin l_L_182 m_X10_judge rfl rfl (by decide) dL_law_1329 (Nat.le_of_ble_eq_true rfl) hP hS hl.1 (fun M2 H2 locs2 hI2 hP hS => ?_)
      exact lv_icmp_eq (tgt := 1442) hx hb dL_law_1332 (by decide) (fun _ => nxt _ _ _ hI2 hP hS) (fun h9 => absurd rfl h9)
    · refine lv_tableIn (off := 1305) (tgt := 1337) hx hb dL_law_32 (by rw [hzt]; omega) (by rw [hzt]; omega) (by rw [hzt, hsw]; rfl) (by decide) ?_
      refine lv_aload_n hx hb dL_law_1337 rfl (lv_at hl 1 rfl) ?_
      refine law_c1 C1 (p_clear hI) l_L_183 m_X9_clear rfl rfl (by decide) dL_law_1338 hP hS hl.1 (fun v M1 H1 locs1 Qm hT hcm hfin hP hS => ?_)
      obtain ⟨x9, rfl⟩ := hT
      refine lv_aload_n hx hb dL_law_1341 rfl (lv_at hl 2 rfl) ?_
      refine law_c2 C1 hcm hfin l_L_186 m_X10_clear rfl rfl (by decide) dL_law_1342 (Nat.le_of_ble_eq_true rfl) hP hS hl.1 (fun M2 H2 locs2 hI2 hP hS => ?_)
      exact lv_icmp_eq (tgt := 1442) hx hb dL_law_1345 (by decide) (fun _ => nxt _ _ _ hI2 hP hS) (fun h9 => absurd rfl h9)
    · refine lv_tableIn (off := 1318) (tgt := 1350) hx hb dL_law_32 (by rw [hzt]; omega) (by rw [hzt]; omega) (by rw [hzt, hsw]; rfl) (by decide) ?_
      refine lv_aload_n hx hb dL_law_1350 rfl (lv_at hl 1 rfl) ?_
      refine lv_aload_n hx hb dL_law_1351 rfl (lv_at hl 0 rfl) ?_
      refine lv_iload_n hx hb dL_law_1352 rfl (lv_at hl 3 rfl) ?_
      refine lv_iconst (v := 1) hx hb dL_law_1353 (by decide) ?_
      refine lv_iadd hx hb dL_law_1354 ?_
      rw [f1]
      refine va_sld hx hb hX hbl hbA hS (vp_in_nI (n := i + 1) (by omega) (by omega)) dL_law_1355 ?_
      rw [← e1]
      refine lv_aload_n hx hb dL_law_1356 rfl (lv_at hl 0 rfl) ?_
      refine lv_iload_n hx hb dL_law_1357 rfl (lv_at hl 3 rfl) ?_
      refine lv_iconst (v := 2) hx hb dL_law_1358 (by decide) ?_
      refine lv_iadd hx hb dL_law_1359 ?_
      rw [f2]
      refine va_sld hx hb hX hbl hbA hS (vp_in_nI (n := i + 2) (by omega) (by omega)) dL_law_1360 ?_
      rw [← e2]
      refine lv_aload_n hx hb dL_law_1361 rfl (lv_at hl 0 rfl) ?_
      refine lv_iload_n hx hb dL_law_1362 rfl (lv_at hl 3 rfl) ?_
      refine lv_iconst (v := 3) hx hb dL_law_1363 (by decide) ?_
      refine lv_iadd hx hb dL_law_1364 ?_
      rw [f3]
      refine va_sld hx hb hX hbl hbA hS (vp_in_nI (n := i + 3) (by omega) (by omega)) dL_law_1365 ?_
      rw [← e3]
      refine law_c1 C1 (p_lots hI hY1 hY2 hY3) l_L_187 m_X9_lots rfl rfl (by decide) dL_law_1366 hP hS hl.1 (fun v M1 H1 locs1 Qm hT hcm hfin hP hS => ?_)
      obtain ⟨x9, rfl⟩ := hT
      refine lv_aload_n hx hb dL_law_1369 rfl (lv_at hl 2 rfl) ?_
      refine lv_aload_n hx hb dL_law_1370 rfl (lv_at hl 0 rfl) ?_
      refine lv_iload_n hx hb dL_law_1371 rfl (lv_at hl 3 rfl) ?_
      refine lv_iconst (v := 1) hx hb dL_law_1372 (by decide) ?_
      refine lv_iadd hx hb dL_law_1373 ?_
      rw [f1]
      refine va_sld hx hb hX hbl hbA hS (vp_in_nI (n := i + 1) (by omega) (by omega)) dL_law_1374 ?_
      rw [← e1]
      refine lv_aload_n hx hb dL_law_1375 rfl (lv_at hl 0 rfl) ?_
      refine lv_iload_n hx hb dL_law_1376 rfl (lv_at hl 3 rfl) ?_
      refine lv_iconst (v := 2) hx hb dL_law_1377 (by decide) ?_
      refine lv_iadd hx hb dL_law_1378 ?_
      rw [f2]
      refine va_sld hx hb hX hbl hbA hS (vp_in_nI (n := i + 2) (by omega) (by omega)) dL_law_1379 ?_
      rw [← e2]
      refine lv_aload_n hx hb dL_law_1380 rfl (lv_at hl 0 rfl) ?_
      refine lv_iload_n hx hb dL_law_1381 rfl (lv_at hl 3 rfl) ?_
      refine lv_iconst (v := 3) hx hb dL_law_1382 (by decide) ?_
      refine lv_iadd hx hb dL_law_1383 ?_
      rw [f3]
      refine va_sld hx hb hX hbl hbA hS (vp_in_nI (n := i + 3) (by omega) (by omega)) dL_law_1384 ?_
      rw [← e3]
      refine law_c2 C1 hcm hfin l_L_190 m_X10_lots rfl rfl (by decide) dL_law_1385 (Nat.le_of_ble_eq_true rfl) hP hS hl.1 (fun M2 H2 locs2 hI2 hP hS => ?_)
      exact lv_icmp_eq (tgt := 1442) hx hb dL_law_1388 (by decide) (fun _ => nxt _ _ _ hI2 hP hS) (fun h9 => absurd rfl h9)
    · refine lv_tableIn (off := 1361) (tgt := 1393) hx hb dL_law_32 (by rw [hzt]; omega) (by rw [hzt]; omega) (by rw [hzt, hsw]; rfl) (by decide) ?_
      refine lv_aload_n hx hb dL_law_1393 rfl (lv_at hl 1 rfl) ?_
      refine law_c1 C1 (p_image hI) l_L_191 m_X9_image rfl rfl (by decide) dL_law_1394 hP hS hl.1 (fun v M1 H1 locs1 Qm hT hcm hfin hP hS => ?_)
      obtain ⟨x9, rfl⟩ := hT
      refine lv_aload_n hx hb dL_law_1397 rfl (lv_at hl 2 rfl) ?_
      refine law_c2 C1 hcm hfin l_L_194 m_X10_image rfl rfl (by decide) dL_law_1398 (Nat.le_of_ble_eq_true rfl) hP hS hl.1 (fun M2 H2 locs2 hI2 hP hS => ?_)
      exact lv_icmp_eq (tgt := 1442) hx hb dL_law_1401 (by decide) (fun _ => nxt _ _ _ hI2 hP hS) (fun h9 => absurd rfl h9)
    · refine lv_tableIn (off := 1374) (tgt := 1406) hx hb dL_law_32 (by rw [hzt]; omega) (by rw [hzt]; omega) (by rw [hzt, hsw]; rfl) (by decide) ?_
      refine lv_aload_n hx hb dL_law_1406 rfl (lv_at hl 1 rfl) ?_
      refine law_c1 C1 (p_restore hI) l_L_195 m_X9_restore rfl rfl (by decide) dL_law_1407 hP hS hl.1 (fun v M1 H1 locs1 Qm hT hcm hfin hP hS => ?_)
      obtain ⟨x9, rfl⟩ := hT
      refine lv_aload_n hx hb dL_law_1410 rfl (lv_at hl 2 rfl) ?_
      refine law_c2 C1 hcm hfin l_L_198 m_X10_restore rfl rfl (by decide) dL_law_1411 (Nat.le_of_ble_eq_true rfl) hP hS hl.1 (fun M2 H2 locs2 hI2 hP hS => ?_)
      exact lv_icmp_eq (tgt := 1442) hx hb dL_law_1414 (by decide) (fun _ => nxt _ _ _ hI2 hP hS) (fun h9 => absurd rfl h9)
    · refine lv_tableIn (off := 1387) (tgt := 1419) hx hb dL_law_32 (by rw [hzt]; omega) (by rw [hzt]; omega) (by rw [hzt, hsw]; rfl) (by decide) ?_
      refine lv_aload_n hx hb dL_law_1419 rfl (lv_at hl 1 rfl) ?_
      refine lv_aload_n hx hb dL_law_1420 rfl (lv_at hl 0 rfl) ?_
      refine lv_iload_n hx hb dL_law_1421 rfl (lv_at hl 3 rfl) ?_
      refine lv_iconst (v := 1) hx hb dL_law_1422 (by decide) ?_
      refine lv_iadd hx hb dL_law_1423 ?_
      rw [f1]
      refine va_sld hx hb hX hbl hbA hS (vp_in_nI (n := i + 1) (by omega) (by omega)) dL_law_1424 ?_
      rw [← e1]
      refine law_c1 C1 (p_count hI hY1) l_L_199 m_X9_count rfl rfl (by decide) dL_law_1425 hP hS hl.1 (fun v M1 H1 locs1 Qm hT hcm hfin hP hS => ?_)
      obtain ⟨x9, rfl⟩ := hT
      refine lv_aload_n hx hb dL_law_1428 rfl (lv_at hl 2 rfl) ?_
      refine lv_aload_n hx hb dL_law_1429 rfl (lv_at hl 0 rfl) ?_
      refine lv_iload_n hx hb dL_law_1430 rfl (lv_at hl 3 rfl) ?_
      refine lv_iconst (v := 1) hx hb dL_law_1431 (by decide) ?_
      refine lv_iadd hx hb dL_law_1432 ?_
      rw [f1]
      refine va_sld hx hb hX hbl hbA hS (vp_in_nI (n := i + 1) (by omega) (by omega)) dL_law_1433 ?_
      rw [← e1]
      refine law_c2 C1 hcm hfin l_L_202 m_X10_count rfl rfl (by decide) dL_law_1434 (Nat.le_of_ble_eq_true rfl) hP hS hl.1 (fun M2 H2 locs2 hI2 hP hS => ?_)
      exact lv_icmp_eq (tgt := 1442) hx hb dL_law_1437 (by decide) (fun _ => nxt _ _ _ hI2 hP hS) (fun h9 => absurd rfl h9)
    · exact lv_tableOut (tgt := 1442) hx hb dL_law_32 (by rw [hzt]; omega) (by decide) (nxt _ _ _ hI hP hS)
