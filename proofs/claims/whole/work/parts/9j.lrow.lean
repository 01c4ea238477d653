/-! The law: its instructions. -/
theorem dw_0 : decode code 0 = .ok (.new 7, 3) := by decide +kernel
theorem dw_3 : decode code 3 = .ok (.dup, 1) := by decide +kernel
theorem dw_4 : decode code 4 = .ok (.invokespecial 9, 3) := by decide +kernel
theorem dw_7 : decode code 7 = .ok (.astore_n 1, 1) := by decide +kernel
theorem dw_8 : decode code 8 = .ok (.new 10, 3) := by decide +kernel
theorem dw_11 : decode code 11 = .ok (.dup, 1) := by decide +kernel
theorem dw_12 : decode code 12 = .ok (.invokespecial 12, 3) := by decide +kernel
theorem dw_15 : decode code 15 = .ok (.astore_n 2, 1) := by decide +kernel
theorem dw_16 : decode code 16 = .ok (.iconst 0, 1) := by decide +kernel
theorem dw_17 : decode code 17 = .ok (.istore_n 3, 1) := by decide +kernel
theorem dw_18 : decode code 18 = .ok (.iload_n 3, 1) := by decide +kernel
theorem dw_19 : decode code 19 = .ok (.aload_n 0, 1) := by decide +kernel
theorem dw_20 : decode code 20 = .ok (.arraylength, 1) := by decide +kernel
theorem dw_21 : decode code 21 = .ok (.bipush 6, 2) := by decide +kernel
theorem dw_23 : decode code 23 = .ok (.isub, 1) := by decide +kernel
theorem dw_24 : decode code 24 = .ok (.if_icmp .gt 1502, 3) := by decide +kernel
theorem dw_27 : decode code 27 = .ok (.aload_n 0, 1) := by decide +kernel
theorem dw_28 : decode code 28 = .ok (.iload_n 3, 1) := by decide +kernel
theorem dw_29 : decode code 29 = .ok (.iaload, 1) := by decide +kernel
theorem dw_30 : decode code 30 = .ok (.bipush 63, 2) := by decide +kernel
theorem dw_32 : decode code 32 = .ok (.iand, 1) := by decide +kernel
theorem dw_33 : decode code 33 = .ok (.tableswitch 1487 0 46 #[203, 216, 230, 244, 287, 360, 394, 457, 520, 543, 566, 589, 612, 645, 678, 711, 744, 767, 790, 813, 866, 889, 922, 955, 978, 1001, 1034, 1057, 1070, 1083, 1096, 1109, 1132, 1155, 1188, 1211, 1234, 1257, 1280, 1303, 1326, 1359, 1382, 1405, 1428, 1461, 1474], 203) := by decide +kernel
theorem dw_236 : decode code 236 = .ok (.aload_n 1, 1) := by decide +kernel
theorem dw_237 : decode code 237 = .ok (.invokevirtual 13, 3) := by decide +kernel
theorem dw_240 : decode code 240 = .ok (.aload_n 2, 1) := by decide +kernel
theorem dw_241 : decode code 241 = .ok (.invokevirtual 17, 3) := by decide +kernel
theorem dw_244 : decode code 244 = .ok (.if_icmp .eq 1276, 3) := by decide +kernel
theorem dw_247 : decode code 247 = .ok (.iconst 0, 1) := by decide +kernel
theorem dw_248 : decode code 248 = .ok (.ireturn, 1) := by decide +kernel
theorem dw_249 : decode code 249 = .ok (.aload_n 1, 1) := by decide +kernel
theorem dw_250 : decode code 250 = .ok (.invokevirtual 18, 3) := by decide +kernel
theorem dw_253 : decode code 253 = .ok (.aload_n 2, 1) := by decide +kernel
theorem dw_254 : decode code 254 = .ok (.invokevirtual 22, 3) := by decide +kernel
theorem dw_257 : decode code 257 = .ok (.lcmp, 1) := by decide +kernel
theorem dw_258 : decode code 258 = .ok (.ifCond .eq 1262, 3) := by decide +kernel
theorem dw_261 : decode code 261 = .ok (.iconst 0, 1) := by decide +kernel
theorem dw_262 : decode code 262 = .ok (.ireturn, 1) := by decide +kernel
theorem dw_263 : decode code 263 = .ok (.aload_n 1, 1) := by decide +kernel
theorem dw_264 : decode code 264 = .ok (.invokevirtual 23, 3) := by decide +kernel
theorem dw_267 : decode code 267 = .ok (.aload_n 2, 1) := by decide +kernel
theorem dw_268 : decode code 268 = .ok (.invokevirtual 26, 3) := by decide +kernel
theorem dw_271 : decode code 271 = .ok (.lcmp, 1) := by decide +kernel
theorem dw_272 : decode code 272 = .ok (.ifCond .eq 1248, 3) := by decide +kernel
theorem dw_275 : decode code 275 = .ok (.iconst 0, 1) := by decide +kernel
theorem dw_276 : decode code 276 = .ok (.ireturn, 1) := by decide +kernel
theorem dw_277 : decode code 277 = .ok (.aload_n 1, 1) := by decide +kernel
theorem dw_278 : decode code 278 = .ok (.aload_n 0, 1) := by decide +kernel
theorem dw_279 : decode code 279 = .ok (.iload_n 3, 1) := by decide +kernel
theorem dw_280 : decode code 280 = .ok (.iconst 1, 1) := by decide +kernel
theorem dw_281 : decode code 281 = .ok (.iadd, 1) := by decide +kernel
theorem dw_282 : decode code 282 = .ok (.iaload, 1) := by decide +kernel
theorem dw_283 : decode code 283 = .ok (.aload_n 0, 1) := by decide +kernel
theorem dw_284 : decode code 284 = .ok (.iload_n 3, 1) := by decide +kernel
theorem dw_285 : decode code 285 = .ok (.iconst 2, 1) := by decide +kernel
theorem dw_286 : decode code 286 = .ok (.iadd, 1) := by decide +kernel
theorem dw_287 : decode code 287 = .ok (.iaload, 1) := by decide +kernel
theorem dw_288 : decode code 288 = .ok (.aload_n 0, 1) := by decide +kernel
theorem dw_289 : decode code 289 = .ok (.iload_n 3, 1) := by decide +kernel
theorem dw_290 : decode code 290 = .ok (.iconst 3, 1) := by decide +kernel
theorem dw_291 : decode code 291 = .ok (.iadd, 1) := by decide +kernel
theorem dw_292 : decode code 292 = .ok (.iaload, 1) := by decide +kernel
theorem dw_293 : decode code 293 = .ok (.invokevirtual 27, 3) := by decide +kernel
theorem dw_296 : decode code 296 = .ok (.aload_n 2, 1) := by decide +kernel
theorem dw_297 : decode code 297 = .ok (.aload_n 0, 1) := by decide +kernel
theorem dw_298 : decode code 298 = .ok (.iload_n 3, 1) := by decide +kernel
theorem dw_299 : decode code 299 = .ok (.iconst 1, 1) := by decide +kernel
theorem dw_300 : decode code 300 = .ok (.iadd, 1) := by decide +kernel
theorem dw_301 : decode code 301 = .ok (.iaload, 1) := by decide +kernel
theorem dw_302 : decode code 302 = .ok (.aload_n 0, 1) := by decide +kernel
theorem dw_303 : decode code 303 = .ok (.iload_n 3, 1) := by decide +kernel
theorem dw_304 : decode code 304 = .ok (.iconst 2, 1) := by decide +kernel
theorem dw_305 : decode code 305 = .ok (.iadd, 1) := by decide +kernel
theorem dw_306 : decode code 306 = .ok (.iaload, 1) := by decide +kernel
theorem dw_307 : decode code 307 = .ok (.aload_n 0, 1) := by decide +kernel
theorem dw_308 : decode code 308 = .ok (.iload_n 3, 1) := by decide +kernel
theorem dw_309 : decode code 309 = .ok (.iconst 3, 1) := by decide +kernel
theorem dw_310 : decode code 310 = .ok (.iadd, 1) := by decide +kernel
theorem dw_311 : decode code 311 = .ok (.iaload, 1) := by decide +kernel
theorem dw_312 : decode code 312 = .ok (.invokevirtual 31, 3) := by decide +kernel
theorem dw_315 : decode code 315 = .ok (.if_icmp .eq 1205, 3) := by decide +kernel
theorem dw_318 : decode code 318 = .ok (.iconst 0, 1) := by decide +kernel
theorem dw_319 : decode code 319 = .ok (.ireturn, 1) := by decide +kernel
theorem dw_320 : decode code 320 = .ok (.aload_n 1, 1) := by decide +kernel
theorem dw_321 : decode code 321 = .ok (.aload_n 0, 1) := by decide +kernel
theorem dw_322 : decode code 322 = .ok (.iload_n 3, 1) := by decide +kernel
theorem dw_323 : decode code 323 = .ok (.iconst 1, 1) := by decide +kernel
theorem dw_324 : decode code 324 = .ok (.iadd, 1) := by decide +kernel
theorem dw_325 : decode code 325 = .ok (.iaload, 1) := by decide +kernel
theorem dw_326 : decode code 326 = .ok (.aload_n 0, 1) := by decide +kernel
theorem dw_327 : decode code 327 = .ok (.iload_n 3, 1) := by decide +kernel
theorem dw_328 : decode code 328 = .ok (.iconst 2, 1) := by decide +kernel
theorem dw_329 : decode code 329 = .ok (.iadd, 1) := by decide +kernel
theorem dw_330 : decode code 330 = .ok (.iaload, 1) := by decide +kernel
theorem dw_331 : decode code 331 = .ok (.aload_n 0, 1) := by decide +kernel
theorem dw_332 : decode code 332 = .ok (.iload_n 3, 1) := by decide +kernel
theorem dw_333 : decode code 333 = .ok (.iconst 3, 1) := by decide +kernel
theorem dw_334 : decode code 334 = .ok (.iadd, 1) := by decide +kernel
theorem dw_335 : decode code 335 = .ok (.iaload, 1) := by decide +kernel
theorem dw_336 : decode code 336 = .ok (.i2l, 1) := by decide +kernel
theorem dw_337 : decode code 337 = .ok (.bipush 32, 2) := by decide +kernel
theorem dw_339 : decode code 339 = .ok (.lshl, 1) := by decide +kernel
theorem dw_340 : decode code 340 = .ok (.aload_n 0, 1) := by decide +kernel
theorem dw_341 : decode code 341 = .ok (.iload_n 3, 1) := by decide +kernel
theorem dw_342 : decode code 342 = .ok (.iconst 4, 1) := by decide +kernel
theorem dw_343 : decode code 343 = .ok (.iadd, 1) := by decide +kernel
theorem dw_344 : decode code 344 = .ok (.iaload, 1) := by decide +kernel
theorem dw_345 : decode code 345 = .ok (.i2l, 1) := by decide +kernel
theorem dw_346 : decode code 346 = .ok (.ldc2_w 32, 3) := by decide +kernel
theorem dw_349 : decode code 349 = .ok (.land, 1) := by decide +kernel
theorem dw_350 : decode code 350 = .ok (.lor, 1) := by decide +kernel
theorem dw_351 : decode code 351 = .ok (.invokevirtual 34, 3) := by decide +kernel
theorem dw_354 : decode code 354 = .ok (.aload_n 2, 1) := by decide +kernel
theorem dw_355 : decode code 355 = .ok (.aload_n 0, 1) := by decide +kernel
theorem dw_356 : decode code 356 = .ok (.iload_n 3, 1) := by decide +kernel
theorem dw_357 : decode code 357 = .ok (.iconst 1, 1) := by decide +kernel
theorem dw_358 : decode code 358 = .ok (.iadd, 1) := by decide +kernel
theorem dw_359 : decode code 359 = .ok (.iaload, 1) := by decide +kernel
theorem dw_360 : decode code 360 = .ok (.aload_n 0, 1) := by decide +kernel
theorem dw_361 : decode code 361 = .ok (.iload_n 3, 1) := by decide +kernel
theorem dw_362 : decode code 362 = .ok (.iconst 2, 1) := by decide +kernel
theorem dw_363 : decode code 363 = .ok (.iadd, 1) := by decide +kernel
theorem dw_364 : decode code 364 = .ok (.iaload, 1) := by decide +kernel
theorem dw_365 : decode code 365 = .ok (.aload_n 0, 1) := by decide +kernel
theorem dw_366 : decode code 366 = .ok (.iload_n 3, 1) := by decide +kernel
theorem dw_367 : decode code 367 = .ok (.iconst 3, 1) := by decide +kernel
theorem dw_368 : decode code 368 = .ok (.iadd, 1) := by decide +kernel
theorem dw_369 : decode code 369 = .ok (.iaload, 1) := by decide +kernel
theorem dw_370 : decode code 370 = .ok (.i2l, 1) := by decide +kernel
theorem dw_371 : decode code 371 = .ok (.bipush 32, 2) := by decide +kernel
theorem dw_373 : decode code 373 = .ok (.lshl, 1) := by decide +kernel
theorem dw_374 : decode code 374 = .ok (.aload_n 0, 1) := by decide +kernel
theorem dw_375 : decode code 375 = .ok (.iload_n 3, 1) := by decide +kernel
theorem dw_376 : decode code 376 = .ok (.iconst 4, 1) := by decide +kernel
theorem dw_377 : decode code 377 = .ok (.iadd, 1) := by decide +kernel
theorem dw_378 : decode code 378 = .ok (.iaload, 1) := by decide +kernel
theorem dw_379 : decode code 379 = .ok (.i2l, 1) := by decide +kernel
theorem dw_380 : decode code 380 = .ok (.ldc2_w 32, 3) := by decide +kernel
theorem dw_383 : decode code 383 = .ok (.land, 1) := by decide +kernel
theorem dw_384 : decode code 384 = .ok (.lor, 1) := by decide +kernel
theorem dw_385 : decode code 385 = .ok (.invokevirtual 38, 3) := by decide +kernel
theorem dw_388 : decode code 388 = .ok (.if_icmp .eq 1132, 3) := by decide +kernel
theorem dw_391 : decode code 391 = .ok (.iconst 0, 1) := by decide +kernel
theorem dw_392 : decode code 392 = .ok (.ireturn, 1) := by decide +kernel
theorem dw_393 : decode code 393 = .ok (.aload_n 1, 1) := by decide +kernel
theorem dw_394 : decode code 394 = .ok (.aload_n 0, 1) := by decide +kernel
theorem dw_395 : decode code 395 = .ok (.iload_n 3, 1) := by decide +kernel
theorem dw_396 : decode code 396 = .ok (.iconst 1, 1) := by decide +kernel
theorem dw_397 : decode code 397 = .ok (.iadd, 1) := by decide +kernel
theorem dw_398 : decode code 398 = .ok (.iaload, 1) := by decide +kernel
theorem dw_399 : decode code 399 = .ok (.aload_n 0, 1) := by decide +kernel
theorem dw_400 : decode code 400 = .ok (.iload_n 3, 1) := by decide +kernel
theorem dw_401 : decode code 401 = .ok (.iconst 2, 1) := by decide +kernel
theorem dw_402 : decode code 402 = .ok (.iadd, 1) := by decide +kernel
theorem dw_403 : decode code 403 = .ok (.iaload, 1) := by decide +kernel
theorem dw_404 : decode code 404 = .ok (.invokevirtual 39, 3) := by decide +kernel
theorem dw_407 : decode code 407 = .ok (.aload_n 2, 1) := by decide +kernel
theorem dw_408 : decode code 408 = .ok (.aload_n 0, 1) := by decide +kernel
theorem dw_409 : decode code 409 = .ok (.iload_n 3, 1) := by decide +kernel
theorem dw_410 : decode code 410 = .ok (.iconst 1, 1) := by decide +kernel
theorem dw_411 : decode code 411 = .ok (.iadd, 1) := by decide +kernel
theorem dw_412 : decode code 412 = .ok (.iaload, 1) := by decide +kernel
theorem dw_413 : decode code 413 = .ok (.aload_n 0, 1) := by decide +kernel
theorem dw_414 : decode code 414 = .ok (.iload_n 3, 1) := by decide +kernel
theorem dw_415 : decode code 415 = .ok (.iconst 2, 1) := by decide +kernel
theorem dw_416 : decode code 416 = .ok (.iadd, 1) := by decide +kernel
theorem dw_417 : decode code 417 = .ok (.iaload, 1) := by decide +kernel
theorem dw_418 : decode code 418 = .ok (.invokevirtual 43, 3) := by decide +kernel
theorem dw_421 : decode code 421 = .ok (.lcmp, 1) := by decide +kernel
theorem dw_422 : decode code 422 = .ok (.ifCond .eq 1098, 3) := by decide +kernel
theorem dw_425 : decode code 425 = .ok (.iconst 0, 1) := by decide +kernel
theorem dw_426 : decode code 426 = .ok (.ireturn, 1) := by decide +kernel
theorem dw_427 : decode code 427 = .ok (.aload_n 1, 1) := by decide +kernel
theorem dw_428 : decode code 428 = .ok (.aload_n 0, 1) := by decide +kernel
theorem dw_429 : decode code 429 = .ok (.iload_n 3, 1) := by decide +kernel
theorem dw_430 : decode code 430 = .ok (.iconst 1, 1) := by decide +kernel
theorem dw_431 : decode code 431 = .ok (.iadd, 1) := by decide +kernel
theorem dw_432 : decode code 432 = .ok (.iaload, 1) := by decide +kernel
theorem dw_433 : decode code 433 = .ok (.aload_n 0, 1) := by decide +kernel
theorem dw_434 : decode code 434 = .ok (.iload_n 3, 1) := by decide +kernel
theorem dw_435 : decode code 435 = .ok (.iconst 2, 1) := by decide +kernel
theorem dw_436 : decode code 436 = .ok (.iadd, 1) := by decide +kernel
theorem dw_437 : decode code 437 = .ok (.iaload, 1) := by decide +kernel
theorem dw_438 : decode code 438 = .ok (.aload_n 0, 1) := by decide +kernel
theorem dw_439 : decode code 439 = .ok (.iload_n 3, 1) := by decide +kernel
theorem dw_440 : decode code 440 = .ok (.iconst 3, 1) := by decide +kernel
theorem dw_441 : decode code 441 = .ok (.iadd, 1) := by decide +kernel
theorem dw_442 : decode code 442 = .ok (.iaload, 1) := by decide +kernel
theorem dw_443 : decode code 443 = .ok (.aload_n 0, 1) := by decide +kernel
theorem dw_444 : decode code 444 = .ok (.iload_n 3, 1) := by decide +kernel
theorem dw_445 : decode code 445 = .ok (.iconst 4, 1) := by decide +kernel
theorem dw_446 : decode code 446 = .ok (.iadd, 1) := by decide +kernel
theorem dw_447 : decode code 447 = .ok (.iaload, 1) := by decide +kernel
theorem dw_448 : decode code 448 = .ok (.aload_n 0, 1) := by decide +kernel
theorem dw_449 : decode code 449 = .ok (.iload_n 3, 1) := by decide +kernel
theorem dw_450 : decode code 450 = .ok (.iconst 5, 1) := by decide +kernel
theorem dw_451 : decode code 451 = .ok (.iadd, 1) := by decide +kernel
theorem dw_452 : decode code 452 = .ok (.iaload, 1) := by decide +kernel
theorem dw_453 : decode code 453 = .ok (.invokevirtual 44, 3) := by decide +kernel
theorem dw_456 : decode code 456 = .ok (.aload_n 2, 1) := by decide +kernel
theorem dw_457 : decode code 457 = .ok (.aload_n 0, 1) := by decide +kernel
theorem dw_458 : decode code 458 = .ok (.iload_n 3, 1) := by decide +kernel
theorem dw_459 : decode code 459 = .ok (.iconst 1, 1) := by decide +kernel
theorem dw_460 : decode code 460 = .ok (.iadd, 1) := by decide +kernel
theorem dw_461 : decode code 461 = .ok (.iaload, 1) := by decide +kernel
theorem dw_462 : decode code 462 = .ok (.aload_n 0, 1) := by decide +kernel
theorem dw_463 : decode code 463 = .ok (.iload_n 3, 1) := by decide +kernel
theorem dw_464 : decode code 464 = .ok (.iconst 2, 1) := by decide +kernel
theorem dw_465 : decode code 465 = .ok (.iadd, 1) := by decide +kernel
theorem dw_466 : decode code 466 = .ok (.iaload, 1) := by decide +kernel
theorem dw_467 : decode code 467 = .ok (.aload_n 0, 1) := by decide +kernel
theorem dw_468 : decode code 468 = .ok (.iload_n 3, 1) := by decide +kernel
theorem dw_469 : decode code 469 = .ok (.iconst 3, 1) := by decide +kernel
theorem dw_470 : decode code 470 = .ok (.iadd, 1) := by decide +kernel
theorem dw_471 : decode code 471 = .ok (.iaload, 1) := by decide +kernel
theorem dw_472 : decode code 472 = .ok (.aload_n 0, 1) := by decide +kernel
theorem dw_473 : decode code 473 = .ok (.iload_n 3, 1) := by decide +kernel
theorem dw_474 : decode code 474 = .ok (.iconst 4, 1) := by decide +kernel
theorem dw_475 : decode code 475 = .ok (.iadd, 1) := by decide +kernel
theorem dw_476 : decode code 476 = .ok (.iaload, 1) := by decide +kernel
theorem dw_477 : decode code 477 = .ok (.aload_n 0, 1) := by decide +kernel
theorem dw_478 : decode code 478 = .ok (.iload_n 3, 1) := by decide +kernel
theorem dw_479 : decode code 479 = .ok (.iconst 5, 1) := by decide +kernel
theorem dw_480 : decode code 480 = .ok (.iadd, 1) := by decide +kernel
theorem dw_481 : decode code 481 = .ok (.iaload, 1) := by decide +kernel
theorem dw_482 : decode code 482 = .ok (.invokevirtual 48, 3) := by decide +kernel
theorem dw_485 : decode code 485 = .ok (.if_icmp .eq 1035, 3) := by decide +kernel
theorem dw_488 : decode code 488 = .ok (.iconst 0, 1) := by decide +kernel
theorem dw_489 : decode code 489 = .ok (.ireturn, 1) := by decide +kernel
theorem dw_490 : decode code 490 = .ok (.aload_n 1, 1) := by decide +kernel
theorem dw_491 : decode code 491 = .ok (.aload_n 0, 1) := by decide +kernel
theorem dw_492 : decode code 492 = .ok (.iload_n 3, 1) := by decide +kernel
theorem dw_493 : decode code 493 = .ok (.iconst 1, 1) := by decide +kernel
theorem dw_494 : decode code 494 = .ok (.iadd, 1) := by decide +kernel
theorem dw_495 : decode code 495 = .ok (.iaload, 1) := by decide +kernel
theorem dw_496 : decode code 496 = .ok (.aload_n 0, 1) := by decide +kernel
theorem dw_497 : decode code 497 = .ok (.iload_n 3, 1) := by decide +kernel
theorem dw_498 : decode code 498 = .ok (.iconst 2, 1) := by decide +kernel
theorem dw_499 : decode code 499 = .ok (.iadd, 1) := by decide +kernel
theorem dw_500 : decode code 500 = .ok (.iaload, 1) := by decide +kernel
theorem dw_501 : decode code 501 = .ok (.aload_n 0, 1) := by decide +kernel
theorem dw_502 : decode code 502 = .ok (.iload_n 3, 1) := by decide +kernel
theorem dw_503 : decode code 503 = .ok (.iconst 3, 1) := by decide +kernel
theorem dw_504 : decode code 504 = .ok (.iadd, 1) := by decide +kernel
theorem dw_505 : decode code 505 = .ok (.iaload, 1) := by decide +kernel
theorem dw_506 : decode code 506 = .ok (.aload_n 0, 1) := by decide +kernel
theorem dw_507 : decode code 507 = .ok (.iload_n 3, 1) := by decide +kernel
theorem dw_508 : decode code 508 = .ok (.iconst 4, 1) := by decide +kernel
theorem dw_509 : decode code 509 = .ok (.iadd, 1) := by decide +kernel
theorem dw_510 : decode code 510 = .ok (.iaload, 1) := by decide +kernel
theorem dw_511 : decode code 511 = .ok (.aload_n 0, 1) := by decide +kernel
theorem dw_512 : decode code 512 = .ok (.iload_n 3, 1) := by decide +kernel
theorem dw_513 : decode code 513 = .ok (.iconst 5, 1) := by decide +kernel
theorem dw_514 : decode code 514 = .ok (.iadd, 1) := by decide +kernel
theorem dw_515 : decode code 515 = .ok (.iaload, 1) := by decide +kernel
theorem dw_516 : decode code 516 = .ok (.invokevirtual 49, 3) := by decide +kernel
theorem dw_519 : decode code 519 = .ok (.aload_n 2, 1) := by decide +kernel
theorem dw_520 : decode code 520 = .ok (.aload_n 0, 1) := by decide +kernel
theorem dw_521 : decode code 521 = .ok (.iload_n 3, 1) := by decide +kernel
theorem dw_522 : decode code 522 = .ok (.iconst 1, 1) := by decide +kernel
theorem dw_523 : decode code 523 = .ok (.iadd, 1) := by decide +kernel
theorem dw_524 : decode code 524 = .ok (.iaload, 1) := by decide +kernel
theorem dw_525 : decode code 525 = .ok (.aload_n 0, 1) := by decide +kernel
theorem dw_526 : decode code 526 = .ok (.iload_n 3, 1) := by decide +kernel
theorem dw_527 : decode code 527 = .ok (.iconst 2, 1) := by decide +kernel
theorem dw_528 : decode code 528 = .ok (.iadd, 1) := by decide +kernel
theorem dw_529 : decode code 529 = .ok (.iaload, 1) := by decide +kernel
theorem dw_530 : decode code 530 = .ok (.aload_n 0, 1) := by decide +kernel
theorem dw_531 : decode code 531 = .ok (.iload_n 3, 1) := by decide +kernel
theorem dw_532 : decode code 532 = .ok (.iconst 3, 1) := by decide +kernel
theorem dw_533 : decode code 533 = .ok (.iadd, 1) := by decide +kernel
theorem dw_534 : decode code 534 = .ok (.iaload, 1) := by decide +kernel
theorem dw_535 : decode code 535 = .ok (.aload_n 0, 1) := by decide +kernel
theorem dw_536 : decode code 536 = .ok (.iload_n 3, 1) := by decide +kernel
theorem dw_537 : decode code 537 = .ok (.iconst 4, 1) := by decide +kernel
theorem dw_538 : decode code 538 = .ok (.iadd, 1) := by decide +kernel
theorem dw_539 : decode code 539 = .ok (.iaload, 1) := by decide +kernel
theorem dw_540 : decode code 540 = .ok (.aload_n 0, 1) := by decide +kernel
theorem dw_541 : decode code 541 = .ok (.iload_n 3, 1) := by decide +kernel
theorem dw_542 : decode code 542 = .ok (.iconst 5, 1) := by decide +kernel
theorem dw_543 : decode code 543 = .ok (.iadd, 1) := by decide +kernel
theorem dw_544 : decode code 544 = .ok (.iaload, 1) := by decide +kernel
theorem dw_545 : decode code 545 = .ok (.invokevirtual 53, 3) := by decide +kernel
theorem dw_548 : decode code 548 = .ok (.if_icmp .eq 972, 3) := by decide +kernel
theorem dw_551 : decode code 551 = .ok (.iconst 0, 1) := by decide +kernel
theorem dw_552 : decode code 552 = .ok (.ireturn, 1) := by decide +kernel
theorem dw_553 : decode code 553 = .ok (.aload_n 1, 1) := by decide +kernel
theorem dw_554 : decode code 554 = .ok (.aload_n 0, 1) := by decide +kernel
theorem dw_555 : decode code 555 = .ok (.iload_n 3, 1) := by decide +kernel
theorem dw_556 : decode code 556 = .ok (.iconst 1, 1) := by decide +kernel
theorem dw_557 : decode code 557 = .ok (.iadd, 1) := by decide +kernel
theorem dw_558 : decode code 558 = .ok (.iaload, 1) := by decide +kernel
theorem dw_559 : decode code 559 = .ok (.invokevirtual 54, 3) := by decide +kernel
theorem dw_562 : decode code 562 = .ok (.aload_n 2, 1) := by decide +kernel
theorem dw_563 : decode code 563 = .ok (.aload_n 0, 1) := by decide +kernel
theorem dw_564 : decode code 564 = .ok (.iload_n 3, 1) := by decide +kernel
theorem dw_565 : decode code 565 = .ok (.iconst 1, 1) := by decide +kernel
theorem dw_566 : decode code 566 = .ok (.iadd, 1) := by decide +kernel
theorem dw_567 : decode code 567 = .ok (.iaload, 1) := by decide +kernel
theorem dw_568 : decode code 568 = .ok (.invokevirtual 58, 3) := by decide +kernel
theorem dw_571 : decode code 571 = .ok (.if_icmp .eq 949, 3) := by decide +kernel
theorem dw_574 : decode code 574 = .ok (.iconst 0, 1) := by decide +kernel
theorem dw_575 : decode code 575 = .ok (.ireturn, 1) := by decide +kernel
theorem dw_576 : decode code 576 = .ok (.aload_n 1, 1) := by decide +kernel
theorem dw_577 : decode code 577 = .ok (.aload_n 0, 1) := by decide +kernel
theorem dw_578 : decode code 578 = .ok (.iload_n 3, 1) := by decide +kernel
theorem dw_579 : decode code 579 = .ok (.iconst 1, 1) := by decide +kernel
theorem dw_580 : decode code 580 = .ok (.iadd, 1) := by decide +kernel
theorem dw_581 : decode code 581 = .ok (.iaload, 1) := by decide +kernel
theorem dw_582 : decode code 582 = .ok (.invokevirtual 59, 3) := by decide +kernel
theorem dw_585 : decode code 585 = .ok (.aload_n 2, 1) := by decide +kernel
theorem dw_586 : decode code 586 = .ok (.aload_n 0, 1) := by decide +kernel
theorem dw_587 : decode code 587 = .ok (.iload_n 3, 1) := by decide +kernel
theorem dw_588 : decode code 588 = .ok (.iconst 1, 1) := by decide +kernel
theorem dw_589 : decode code 589 = .ok (.iadd, 1) := by decide +kernel
theorem dw_590 : decode code 590 = .ok (.iaload, 1) := by decide +kernel
theorem dw_591 : decode code 591 = .ok (.invokevirtual 62, 3) := by decide +kernel
theorem dw_594 : decode code 594 = .ok (.if_icmp .eq 926, 3) := by decide +kernel
theorem dw_597 : decode code 597 = .ok (.iconst 0, 1) := by decide +kernel
theorem dw_598 : decode code 598 = .ok (.ireturn, 1) := by decide +kernel
theorem dw_599 : decode code 599 = .ok (.aload_n 1, 1) := by decide +kernel
theorem dw_600 : decode code 600 = .ok (.aload_n 0, 1) := by decide +kernel
theorem dw_601 : decode code 601 = .ok (.iload_n 3, 1) := by decide +kernel
theorem dw_602 : decode code 602 = .ok (.iconst 1, 1) := by decide +kernel
theorem dw_603 : decode code 603 = .ok (.iadd, 1) := by decide +kernel
theorem dw_604 : decode code 604 = .ok (.iaload, 1) := by decide +kernel
theorem dw_605 : decode code 605 = .ok (.invokevirtual 63, 3) := by decide +kernel
theorem dw_608 : decode code 608 = .ok (.aload_n 2, 1) := by decide +kernel
theorem dw_609 : decode code 609 = .ok (.aload_n 0, 1) := by decide +kernel
theorem dw_610 : decode code 610 = .ok (.iload_n 3, 1) := by decide +kernel
theorem dw_611 : decode code 611 = .ok (.iconst 1, 1) := by decide +kernel
theorem dw_612 : decode code 612 = .ok (.iadd, 1) := by decide +kernel
theorem dw_613 : decode code 613 = .ok (.iaload, 1) := by decide +kernel
theorem dw_614 : decode code 614 = .ok (.invokevirtual 66, 3) := by decide +kernel
theorem dw_617 : decode code 617 = .ok (.if_icmp .eq 903, 3) := by decide +kernel
theorem dw_620 : decode code 620 = .ok (.iconst 0, 1) := by decide +kernel
theorem dw_621 : decode code 621 = .ok (.ireturn, 1) := by decide +kernel
theorem dw_622 : decode code 622 = .ok (.aload_n 1, 1) := by decide +kernel
theorem dw_623 : decode code 623 = .ok (.aload_n 0, 1) := by decide +kernel
theorem dw_624 : decode code 624 = .ok (.iload_n 3, 1) := by decide +kernel
theorem dw_625 : decode code 625 = .ok (.iconst 1, 1) := by decide +kernel
theorem dw_626 : decode code 626 = .ok (.iadd, 1) := by decide +kernel
theorem dw_627 : decode code 627 = .ok (.iaload, 1) := by decide +kernel
theorem dw_628 : decode code 628 = .ok (.invokevirtual 67, 3) := by decide +kernel
theorem dw_631 : decode code 631 = .ok (.aload_n 2, 1) := by decide +kernel
theorem dw_632 : decode code 632 = .ok (.aload_n 0, 1) := by decide +kernel
theorem dw_633 : decode code 633 = .ok (.iload_n 3, 1) := by decide +kernel
theorem dw_634 : decode code 634 = .ok (.iconst 1, 1) := by decide +kernel
theorem dw_635 : decode code 635 = .ok (.iadd, 1) := by decide +kernel
theorem dw_636 : decode code 636 = .ok (.iaload, 1) := by decide +kernel
theorem dw_637 : decode code 637 = .ok (.invokevirtual 70, 3) := by decide +kernel
theorem dw_640 : decode code 640 = .ok (.if_icmp .eq 880, 3) := by decide +kernel
theorem dw_643 : decode code 643 = .ok (.iconst 0, 1) := by decide +kernel
theorem dw_644 : decode code 644 = .ok (.ireturn, 1) := by decide +kernel
theorem dw_645 : decode code 645 = .ok (.aload_n 1, 1) := by decide +kernel
theorem dw_646 : decode code 646 = .ok (.aload_n 0, 1) := by decide +kernel
theorem dw_647 : decode code 647 = .ok (.iload_n 3, 1) := by decide +kernel
theorem dw_648 : decode code 648 = .ok (.iconst 1, 1) := by decide +kernel
theorem dw_649 : decode code 649 = .ok (.iadd, 1) := by decide +kernel
theorem dw_650 : decode code 650 = .ok (.iaload, 1) := by decide +kernel
theorem dw_651 : decode code 651 = .ok (.aload_n 0, 1) := by decide +kernel
theorem dw_652 : decode code 652 = .ok (.iload_n 3, 1) := by decide +kernel
theorem dw_653 : decode code 653 = .ok (.iconst 2, 1) := by decide +kernel
theorem dw_654 : decode code 654 = .ok (.iadd, 1) := by decide +kernel
theorem dw_655 : decode code 655 = .ok (.iaload, 1) := by decide +kernel
theorem dw_656 : decode code 656 = .ok (.invokevirtual 71, 3) := by decide +kernel
theorem dw_659 : decode code 659 = .ok (.aload_n 2, 1) := by decide +kernel
theorem dw_660 : decode code 660 = .ok (.aload_n 0, 1) := by decide +kernel
theorem dw_661 : decode code 661 = .ok (.iload_n 3, 1) := by decide +kernel
theorem dw_662 : decode code 662 = .ok (.iconst 1, 1) := by decide +kernel
theorem dw_663 : decode code 663 = .ok (.iadd, 1) := by decide +kernel
theorem dw_664 : decode code 664 = .ok (.iaload, 1) := by decide +kernel
theorem dw_665 : decode code 665 = .ok (.aload_n 0, 1) := by decide +kernel
theorem dw_666 : decode code 666 = .ok (.iload_n 3, 1) := by decide +kernel
theorem dw_667 : decode code 667 = .ok (.iconst 2, 1) := by decide +kernel
theorem dw_668 : decode code 668 = .ok (.iadd, 1) := by decide +kernel
theorem dw_669 : decode code 669 = .ok (.iaload, 1) := by decide +kernel
theorem dw_670 : decode code 670 = .ok (.invokevirtual 75, 3) := by decide +kernel
theorem dw_673 : decode code 673 = .ok (.if_icmp .eq 847, 3) := by decide +kernel
theorem dw_676 : decode code 676 = .ok (.iconst 0, 1) := by decide +kernel
theorem dw_677 : decode code 677 = .ok (.ireturn, 1) := by decide +kernel
theorem dw_678 : decode code 678 = .ok (.aload_n 1, 1) := by decide +kernel
theorem dw_679 : decode code 679 = .ok (.aload_n 0, 1) := by decide +kernel
theorem dw_680 : decode code 680 = .ok (.iload_n 3, 1) := by decide +kernel
theorem dw_681 : decode code 681 = .ok (.iconst 1, 1) := by decide +kernel
theorem dw_682 : decode code 682 = .ok (.iadd, 1) := by decide +kernel
theorem dw_683 : decode code 683 = .ok (.iaload, 1) := by decide +kernel
theorem dw_684 : decode code 684 = .ok (.aload_n 0, 1) := by decide +kernel
theorem dw_685 : decode code 685 = .ok (.iload_n 3, 1) := by decide +kernel
theorem dw_686 : decode code 686 = .ok (.iconst 2, 1) := by decide +kernel
theorem dw_687 : decode code 687 = .ok (.iadd, 1) := by decide +kernel
theorem dw_688 : decode code 688 = .ok (.iaload, 1) := by decide +kernel
theorem dw_689 : decode code 689 = .ok (.invokevirtual 76, 3) := by decide +kernel
theorem dw_692 : decode code 692 = .ok (.aload_n 2, 1) := by decide +kernel
theorem dw_693 : decode code 693 = .ok (.aload_n 0, 1) := by decide +kernel
theorem dw_694 : decode code 694 = .ok (.iload_n 3, 1) := by decide +kernel
theorem dw_695 : decode code 695 = .ok (.iconst 1, 1) := by decide +kernel
theorem dw_696 : decode code 696 = .ok (.iadd, 1) := by decide +kernel
theorem dw_697 : decode code 697 = .ok (.iaload, 1) := by decide +kernel
theorem dw_698 : decode code 698 = .ok (.aload_n 0, 1) := by decide +kernel
theorem dw_699 : decode code 699 = .ok (.iload_n 3, 1) := by decide +kernel
theorem dw_700 : decode code 700 = .ok (.iconst 2, 1) := by decide +kernel
theorem dw_701 : decode code 701 = .ok (.iadd, 1) := by decide +kernel
theorem dw_702 : decode code 702 = .ok (.iaload, 1) := by decide +kernel
theorem dw_703 : decode code 703 = .ok (.invokevirtual 79, 3) := by decide +kernel
theorem dw_706 : decode code 706 = .ok (.if_icmp .eq 814, 3) := by decide +kernel
theorem dw_709 : decode code 709 = .ok (.iconst 0, 1) := by decide +kernel
theorem dw_710 : decode code 710 = .ok (.ireturn, 1) := by decide +kernel
theorem dw_711 : decode code 711 = .ok (.aload_n 1, 1) := by decide +kernel
theorem dw_712 : decode code 712 = .ok (.aload_n 0, 1) := by decide +kernel
theorem dw_713 : decode code 713 = .ok (.iload_n 3, 1) := by decide +kernel
theorem dw_714 : decode code 714 = .ok (.iconst 1, 1) := by decide +kernel
theorem dw_715 : decode code 715 = .ok (.iadd, 1) := by decide +kernel
theorem dw_716 : decode code 716 = .ok (.iaload, 1) := by decide +kernel
theorem dw_717 : decode code 717 = .ok (.aload_n 0, 1) := by decide +kernel
theorem dw_718 : decode code 718 = .ok (.iload_n 3, 1) := by decide +kernel
theorem dw_719 : decode code 719 = .ok (.iconst 2, 1) := by decide +kernel
theorem dw_720 : decode code 720 = .ok (.iadd, 1) := by decide +kernel
theorem dw_721 : decode code 721 = .ok (.iaload, 1) := by decide +kernel
theorem dw_722 : decode code 722 = .ok (.invokevirtual 80, 3) := by decide +kernel
theorem dw_725 : decode code 725 = .ok (.aload_n 2, 1) := by decide +kernel
theorem dw_726 : decode code 726 = .ok (.aload_n 0, 1) := by decide +kernel
theorem dw_727 : decode code 727 = .ok (.iload_n 3, 1) := by decide +kernel
theorem dw_728 : decode code 728 = .ok (.iconst 1, 1) := by decide +kernel
theorem dw_729 : decode code 729 = .ok (.iadd, 1) := by decide +kernel
theorem dw_730 : decode code 730 = .ok (.iaload, 1) := by decide +kernel
theorem dw_731 : decode code 731 = .ok (.aload_n 0, 1) := by decide +kernel
theorem dw_732 : decode code 732 = .ok (.iload_n 3, 1) := by decide +kernel
theorem dw_733 : decode code 733 = .ok (.iconst 2, 1) := by decide +kernel
theorem dw_734 : decode code 734 = .ok (.iadd, 1) := by decide +kernel
theorem dw_735 : decode code 735 = .ok (.iaload, 1) := by decide +kernel
theorem dw_736 : decode code 736 = .ok (.invokevirtual 83, 3) := by decide +kernel
theorem dw_739 : decode code 739 = .ok (.if_icmp .eq 781, 3) := by decide +kernel
theorem dw_742 : decode code 742 = .ok (.iconst 0, 1) := by decide +kernel
theorem dw_743 : decode code 743 = .ok (.ireturn, 1) := by decide +kernel
theorem dw_744 : decode code 744 = .ok (.aload_n 1, 1) := by decide +kernel
theorem dw_745 : decode code 745 = .ok (.aload_n 0, 1) := by decide +kernel
theorem dw_746 : decode code 746 = .ok (.iload_n 3, 1) := by decide +kernel
theorem dw_747 : decode code 747 = .ok (.iconst 1, 1) := by decide +kernel
theorem dw_748 : decode code 748 = .ok (.iadd, 1) := by decide +kernel
theorem dw_749 : decode code 749 = .ok (.iaload, 1) := by decide +kernel
theorem dw_750 : decode code 750 = .ok (.aload_n 0, 1) := by decide +kernel
theorem dw_751 : decode code 751 = .ok (.iload_n 3, 1) := by decide +kernel
theorem dw_752 : decode code 752 = .ok (.iconst 2, 1) := by decide +kernel
theorem dw_753 : decode code 753 = .ok (.iadd, 1) := by decide +kernel
theorem dw_754 : decode code 754 = .ok (.iaload, 1) := by decide +kernel
theorem dw_755 : decode code 755 = .ok (.invokevirtual 84, 3) := by decide +kernel
theorem dw_758 : decode code 758 = .ok (.aload_n 2, 1) := by decide +kernel
theorem dw_759 : decode code 759 = .ok (.aload_n 0, 1) := by decide +kernel
theorem dw_760 : decode code 760 = .ok (.iload_n 3, 1) := by decide +kernel
theorem dw_761 : decode code 761 = .ok (.iconst 1, 1) := by decide +kernel
theorem dw_762 : decode code 762 = .ok (.iadd, 1) := by decide +kernel
theorem dw_763 : decode code 763 = .ok (.iaload, 1) := by decide +kernel
theorem dw_764 : decode code 764 = .ok (.aload_n 0, 1) := by decide +kernel
theorem dw_765 : decode code 765 = .ok (.iload_n 3, 1) := by decide +kernel
theorem dw_766 : decode code 766 = .ok (.iconst 2, 1) := by decide +kernel
theorem dw_767 : decode code 767 = .ok (.iadd, 1) := by decide +kernel
theorem dw_768 : decode code 768 = .ok (.iaload, 1) := by decide +kernel
theorem dw_769 : decode code 769 = .ok (.invokevirtual 87, 3) := by decide +kernel
theorem dw_772 : decode code 772 = .ok (.if_icmp .eq 748, 3) := by decide +kernel
theorem dw_775 : decode code 775 = .ok (.iconst 0, 1) := by decide +kernel
theorem dw_776 : decode code 776 = .ok (.ireturn, 1) := by decide +kernel
theorem dw_777 : decode code 777 = .ok (.aload_n 1, 1) := by decide +kernel
theorem dw_778 : decode code 778 = .ok (.aload_n 0, 1) := by decide +kernel
theorem dw_779 : decode code 779 = .ok (.iload_n 3, 1) := by decide +kernel
theorem dw_780 : decode code 780 = .ok (.iconst 1, 1) := by decide +kernel
theorem dw_781 : decode code 781 = .ok (.iadd, 1) := by decide +kernel
theorem dw_782 : decode code 782 = .ok (.iaload, 1) := by decide +kernel
theorem dw_783 : decode code 783 = .ok (.invokevirtual 88, 3) := by decide +kernel
theorem dw_786 : decode code 786 = .ok (.aload_n 2, 1) := by decide +kernel
theorem dw_787 : decode code 787 = .ok (.aload_n 0, 1) := by decide +kernel
theorem dw_788 : decode code 788 = .ok (.iload_n 3, 1) := by decide +kernel
theorem dw_789 : decode code 789 = .ok (.iconst 1, 1) := by decide +kernel
theorem dw_790 : decode code 790 = .ok (.iadd, 1) := by decide +kernel
theorem dw_791 : decode code 791 = .ok (.iaload, 1) := by decide +kernel
theorem dw_792 : decode code 792 = .ok (.invokevirtual 91, 3) := by decide +kernel
theorem dw_795 : decode code 795 = .ok (.if_icmp .eq 725, 3) := by decide +kernel
theorem dw_798 : decode code 798 = .ok (.iconst 0, 1) := by decide +kernel
theorem dw_799 : decode code 799 = .ok (.ireturn, 1) := by decide +kernel
theorem dw_800 : decode code 800 = .ok (.aload_n 1, 1) := by decide +kernel
theorem dw_801 : decode code 801 = .ok (.aload_n 0, 1) := by decide +kernel
theorem dw_802 : decode code 802 = .ok (.iload_n 3, 1) := by decide +kernel
theorem dw_803 : decode code 803 = .ok (.iconst 1, 1) := by decide +kernel
theorem dw_804 : decode code 804 = .ok (.iadd, 1) := by decide +kernel
theorem dw_805 : decode code 805 = .ok (.iaload, 1) := by decide +kernel
theorem dw_806 : decode code 806 = .ok (.invokevirtual 92, 3) := by decide +kernel
theorem dw_809 : decode code 809 = .ok (.aload_n 2, 1) := by decide +kernel
theorem dw_810 : decode code 810 = .ok (.aload_n 0, 1) := by decide +kernel
theorem dw_811 : decode code 811 = .ok (.iload_n 3, 1) := by decide +kernel
theorem dw_812 : decode code 812 = .ok (.iconst 1, 1) := by decide +kernel
theorem dw_813 : decode code 813 = .ok (.iadd, 1) := by decide +kernel
theorem dw_814 : decode code 814 = .ok (.iaload, 1) := by decide +kernel
theorem dw_815 : decode code 815 = .ok (.invokevirtual 95, 3) := by decide +kernel
theorem dw_818 : decode code 818 = .ok (.if_icmp .eq 702, 3) := by decide +kernel
theorem dw_821 : decode code 821 = .ok (.iconst 0, 1) := by decide +kernel
theorem dw_822 : decode code 822 = .ok (.ireturn, 1) := by decide +kernel
theorem dw_823 : decode code 823 = .ok (.aload_n 1, 1) := by decide +kernel
theorem dw_824 : decode code 824 = .ok (.aload_n 0, 1) := by decide +kernel
theorem dw_825 : decode code 825 = .ok (.iload_n 3, 1) := by decide +kernel
theorem dw_826 : decode code 826 = .ok (.iconst 1, 1) := by decide +kernel
theorem dw_827 : decode code 827 = .ok (.iadd, 1) := by decide +kernel
theorem dw_828 : decode code 828 = .ok (.iaload, 1) := by decide +kernel
theorem dw_829 : decode code 829 = .ok (.invokevirtual 96, 3) := by decide +kernel
theorem dw_832 : decode code 832 = .ok (.aload_n 2, 1) := by decide +kernel
theorem dw_833 : decode code 833 = .ok (.aload_n 0, 1) := by decide +kernel
theorem dw_834 : decode code 834 = .ok (.iload_n 3, 1) := by decide +kernel
theorem dw_835 : decode code 835 = .ok (.iconst 1, 1) := by decide +kernel
theorem dw_836 : decode code 836 = .ok (.iadd, 1) := by decide +kernel
theorem dw_837 : decode code 837 = .ok (.iaload, 1) := by decide +kernel
theorem dw_838 : decode code 838 = .ok (.invokevirtual 99, 3) := by decide +kernel
theorem dw_841 : decode code 841 = .ok (.if_icmp .eq 679, 3) := by decide +kernel
theorem dw_844 : decode code 844 = .ok (.iconst 0, 1) := by decide +kernel
theorem dw_845 : decode code 845 = .ok (.ireturn, 1) := by decide +kernel
theorem dw_846 : decode code 846 = .ok (.aload_n 1, 1) := by decide +kernel
theorem dw_847 : decode code 847 = .ok (.aload_n 0, 1) := by decide +kernel
theorem dw_848 : decode code 848 = .ok (.iload_n 3, 1) := by decide +kernel
theorem dw_849 : decode code 849 = .ok (.iconst 1, 1) := by decide +kernel
theorem dw_850 : decode code 850 = .ok (.iadd, 1) := by decide +kernel
theorem dw_851 : decode code 851 = .ok (.iaload, 1) := by decide +kernel
theorem dw_852 : decode code 852 = .ok (.aload_n 0, 1) := by decide +kernel
theorem dw_853 : decode code 853 = .ok (.iload_n 3, 1) := by decide +kernel
theorem dw_854 : decode code 854 = .ok (.iconst 2, 1) := by decide +kernel
theorem dw_855 : decode code 855 = .ok (.iadd, 1) := by decide +kernel
theorem dw_856 : decode code 856 = .ok (.iaload, 1) := by decide +kernel
theorem dw_857 : decode code 857 = .ok (.aload_n 0, 1) := by decide +kernel
theorem dw_858 : decode code 858 = .ok (.iload_n 3, 1) := by decide +kernel
theorem dw_859 : decode code 859 = .ok (.iconst 3, 1) := by decide +kernel
theorem dw_860 : decode code 860 = .ok (.iadd, 1) := by decide +kernel
theorem dw_861 : decode code 861 = .ok (.iaload, 1) := by decide +kernel
theorem dw_862 : decode code 862 = .ok (.aload_n 0, 1) := by decide +kernel
theorem dw_863 : decode code 863 = .ok (.iload_n 3, 1) := by decide +kernel
theorem dw_864 : decode code 864 = .ok (.iconst 4, 1) := by decide +kernel
theorem dw_865 : decode code 865 = .ok (.iadd, 1) := by decide +kernel
theorem dw_866 : decode code 866 = .ok (.iaload, 1) := by decide +kernel
theorem dw_867 : decode code 867 = .ok (.invokevirtual 100, 3) := by decide +kernel
theorem dw_870 : decode code 870 = .ok (.aload_n 2, 1) := by decide +kernel
theorem dw_871 : decode code 871 = .ok (.aload_n 0, 1) := by decide +kernel
theorem dw_872 : decode code 872 = .ok (.iload_n 3, 1) := by decide +kernel
theorem dw_873 : decode code 873 = .ok (.iconst 1, 1) := by decide +kernel
theorem dw_874 : decode code 874 = .ok (.iadd, 1) := by decide +kernel
theorem dw_875 : decode code 875 = .ok (.iaload, 1) := by decide +kernel
theorem dw_876 : decode code 876 = .ok (.aload_n 0, 1) := by decide +kernel
theorem dw_877 : decode code 877 = .ok (.iload_n 3, 1) := by decide +kernel
theorem dw_878 : decode code 878 = .ok (.iconst 2, 1) := by decide +kernel
theorem dw_879 : decode code 879 = .ok (.iadd, 1) := by decide +kernel
theorem dw_880 : decode code 880 = .ok (.iaload, 1) := by decide +kernel
theorem dw_881 : decode code 881 = .ok (.aload_n 0, 1) := by decide +kernel
theorem dw_882 : decode code 882 = .ok (.iload_n 3, 1) := by decide +kernel
theorem dw_883 : decode code 883 = .ok (.iconst 3, 1) := by decide +kernel
theorem dw_884 : decode code 884 = .ok (.iadd, 1) := by decide +kernel
theorem dw_885 : decode code 885 = .ok (.iaload, 1) := by decide +kernel
theorem dw_886 : decode code 886 = .ok (.aload_n 0, 1) := by decide +kernel
theorem dw_887 : decode code 887 = .ok (.iload_n 3, 1) := by decide +kernel
theorem dw_888 : decode code 888 = .ok (.iconst 4, 1) := by decide +kernel
theorem dw_889 : decode code 889 = .ok (.iadd, 1) := by decide +kernel
theorem dw_890 : decode code 890 = .ok (.iaload, 1) := by decide +kernel
theorem dw_891 : decode code 891 = .ok (.invokevirtual 104, 3) := by decide +kernel
theorem dw_894 : decode code 894 = .ok (.if_icmp .eq 626, 3) := by decide +kernel
theorem dw_897 : decode code 897 = .ok (.iconst 0, 1) := by decide +kernel
theorem dw_898 : decode code 898 = .ok (.ireturn, 1) := by decide +kernel
theorem dw_899 : decode code 899 = .ok (.aload_n 1, 1) := by decide +kernel
theorem dw_900 : decode code 900 = .ok (.aload_n 0, 1) := by decide +kernel
theorem dw_901 : decode code 901 = .ok (.iload_n 3, 1) := by decide +kernel
theorem dw_902 : decode code 902 = .ok (.iconst 1, 1) := by decide +kernel
theorem dw_903 : decode code 903 = .ok (.iadd, 1) := by decide +kernel
theorem dw_904 : decode code 904 = .ok (.iaload, 1) := by decide +kernel
theorem dw_905 : decode code 905 = .ok (.invokevirtual 105, 3) := by decide +kernel
theorem dw_908 : decode code 908 = .ok (.aload_n 2, 1) := by decide +kernel
theorem dw_909 : decode code 909 = .ok (.aload_n 0, 1) := by decide +kernel
theorem dw_910 : decode code 910 = .ok (.iload_n 3, 1) := by decide +kernel
theorem dw_911 : decode code 911 = .ok (.iconst 1, 1) := by decide +kernel
theorem dw_912 : decode code 912 = .ok (.iadd, 1) := by decide +kernel
theorem dw_913 : decode code 913 = .ok (.iaload, 1) := by decide +kernel
theorem dw_914 : decode code 914 = .ok (.invokevirtual 108, 3) := by decide +kernel
theorem dw_917 : decode code 917 = .ok (.if_icmp .eq 603, 3) := by decide +kernel
theorem dw_920 : decode code 920 = .ok (.iconst 0, 1) := by decide +kernel
theorem dw_921 : decode code 921 = .ok (.ireturn, 1) := by decide +kernel
theorem dw_922 : decode code 922 = .ok (.aload_n 1, 1) := by decide +kernel
theorem dw_923 : decode code 923 = .ok (.aload_n 0, 1) := by decide +kernel
theorem dw_924 : decode code 924 = .ok (.iload_n 3, 1) := by decide +kernel
theorem dw_925 : decode code 925 = .ok (.iconst 1, 1) := by decide +kernel
theorem dw_926 : decode code 926 = .ok (.iadd, 1) := by decide +kernel
theorem dw_927 : decode code 927 = .ok (.iaload, 1) := by decide +kernel
theorem dw_928 : decode code 928 = .ok (.aload_n 0, 1) := by decide +kernel
theorem dw_929 : decode code 929 = .ok (.iload_n 3, 1) := by decide +kernel
theorem dw_930 : decode code 930 = .ok (.iconst 2, 1) := by decide +kernel
theorem dw_931 : decode code 931 = .ok (.iadd, 1) := by decide +kernel
theorem dw_932 : decode code 932 = .ok (.iaload, 1) := by decide +kernel
theorem dw_933 : decode code 933 = .ok (.invokevirtual 109, 3) := by decide +kernel
theorem dw_936 : decode code 936 = .ok (.aload_n 2, 1) := by decide +kernel
theorem dw_937 : decode code 937 = .ok (.aload_n 0, 1) := by decide +kernel
theorem dw_938 : decode code 938 = .ok (.iload_n 3, 1) := by decide +kernel
theorem dw_939 : decode code 939 = .ok (.iconst 1, 1) := by decide +kernel
theorem dw_940 : decode code 940 = .ok (.iadd, 1) := by decide +kernel
theorem dw_941 : decode code 941 = .ok (.iaload, 1) := by decide +kernel
theorem dw_942 : decode code 942 = .ok (.aload_n 0, 1) := by decide +kernel
theorem dw_943 : decode code 943 = .ok (.iload_n 3, 1) := by decide +kernel
theorem dw_944 : decode code 944 = .ok (.iconst 2, 1) := by decide +kernel
theorem dw_945 : decode code 945 = .ok (.iadd, 1) := by decide +kernel
theorem dw_946 : decode code 946 = .ok (.iaload, 1) := by decide +kernel
theorem dw_947 : decode code 947 = .ok (.invokevirtual 112, 3) := by decide +kernel
theorem dw_950 : decode code 950 = .ok (.if_icmp .eq 570, 3) := by decide +kernel
theorem dw_953 : decode code 953 = .ok (.iconst 0, 1) := by decide +kernel
theorem dw_954 : decode code 954 = .ok (.ireturn, 1) := by decide +kernel
theorem dw_955 : decode code 955 = .ok (.aload_n 1, 1) := by decide +kernel
theorem dw_956 : decode code 956 = .ok (.aload_n 0, 1) := by decide +kernel
theorem dw_957 : decode code 957 = .ok (.iload_n 3, 1) := by decide +kernel
theorem dw_958 : decode code 958 = .ok (.iconst 1, 1) := by decide +kernel
theorem dw_959 : decode code 959 = .ok (.iadd, 1) := by decide +kernel
theorem dw_960 : decode code 960 = .ok (.iaload, 1) := by decide +kernel
theorem dw_961 : decode code 961 = .ok (.aload_n 0, 1) := by decide +kernel
theorem dw_962 : decode code 962 = .ok (.iload_n 3, 1) := by decide +kernel
theorem dw_963 : decode code 963 = .ok (.iconst 2, 1) := by decide +kernel
theorem dw_964 : decode code 964 = .ok (.iadd, 1) := by decide +kernel
theorem dw_965 : decode code 965 = .ok (.iaload, 1) := by decide +kernel
theorem dw_966 : decode code 966 = .ok (.invokevirtual 113, 3) := by decide +kernel
theorem dw_969 : decode code 969 = .ok (.aload_n 2, 1) := by decide +kernel
theorem dw_970 : decode code 970 = .ok (.aload_n 0, 1) := by decide +kernel
theorem dw_971 : decode code 971 = .ok (.iload_n 3, 1) := by decide +kernel
theorem dw_972 : decode code 972 = .ok (.iconst 1, 1) := by decide +kernel
theorem dw_973 : decode code 973 = .ok (.iadd, 1) := by decide +kernel
theorem dw_974 : decode code 974 = .ok (.iaload, 1) := by decide +kernel
theorem dw_975 : decode code 975 = .ok (.aload_n 0, 1) := by decide +kernel
theorem dw_976 : decode code 976 = .ok (.iload_n 3, 1) := by decide +kernel
theorem dw_977 : decode code 977 = .ok (.iconst 2, 1) := by decide +kernel
theorem dw_978 : decode code 978 = .ok (.iadd, 1) := by decide +kernel
theorem dw_979 : decode code 979 = .ok (.iaload, 1) := by decide +kernel
theorem dw_980 : decode code 980 = .ok (.invokevirtual 116, 3) := by decide +kernel
theorem dw_983 : decode code 983 = .ok (.if_icmp .eq 537, 3) := by decide +kernel
theorem dw_986 : decode code 986 = .ok (.iconst 0, 1) := by decide +kernel
theorem dw_987 : decode code 987 = .ok (.ireturn, 1) := by decide +kernel
theorem dw_988 : decode code 988 = .ok (.aload_n 1, 1) := by decide +kernel
theorem dw_989 : decode code 989 = .ok (.aload_n 0, 1) := by decide +kernel
theorem dw_990 : decode code 990 = .ok (.iload_n 3, 1) := by decide +kernel
theorem dw_991 : decode code 991 = .ok (.iconst 1, 1) := by decide +kernel
theorem dw_992 : decode code 992 = .ok (.iadd, 1) := by decide +kernel
theorem dw_993 : decode code 993 = .ok (.iaload, 1) := by decide +kernel
theorem dw_994 : decode code 994 = .ok (.invokevirtual 117, 3) := by decide +kernel
theorem dw_997 : decode code 997 = .ok (.aload_n 2, 1) := by decide +kernel
theorem dw_998 : decode code 998 = .ok (.aload_n 0, 1) := by decide +kernel
theorem dw_999 : decode code 999 = .ok (.iload_n 3, 1) := by decide +kernel
theorem dw_1000 : decode code 1000 = .ok (.iconst 1, 1) := by decide +kernel
theorem dw_1001 : decode code 1001 = .ok (.iadd, 1) := by decide +kernel
theorem dw_1002 : decode code 1002 = .ok (.iaload, 1) := by decide +kernel
theorem dw_1003 : decode code 1003 = .ok (.invokevirtual 120, 3) := by decide +kernel
theorem dw_1006 : decode code 1006 = .ok (.if_icmp .eq 514, 3) := by decide +kernel
theorem dw_1009 : decode code 1009 = .ok (.iconst 0, 1) := by decide +kernel
theorem dw_1010 : decode code 1010 = .ok (.ireturn, 1) := by decide +kernel
theorem dw_1011 : decode code 1011 = .ok (.aload_n 1, 1) := by decide +kernel
theorem dw_1012 : decode code 1012 = .ok (.aload_n 0, 1) := by decide +kernel
theorem dw_1013 : decode code 1013 = .ok (.iload_n 3, 1) := by decide +kernel
theorem dw_1014 : decode code 1014 = .ok (.iconst 1, 1) := by decide +kernel
theorem dw_1015 : decode code 1015 = .ok (.iadd, 1) := by decide +kernel
theorem dw_1016 : decode code 1016 = .ok (.iaload, 1) := by decide +kernel
theorem dw_1017 : decode code 1017 = .ok (.invokevirtual 121, 3) := by decide +kernel
theorem dw_1020 : decode code 1020 = .ok (.aload_n 2, 1) := by decide +kernel
theorem dw_1021 : decode code 1021 = .ok (.aload_n 0, 1) := by decide +kernel
theorem dw_1022 : decode code 1022 = .ok (.iload_n 3, 1) := by decide +kernel
theorem dw_1023 : decode code 1023 = .ok (.iconst 1, 1) := by decide +kernel
theorem dw_1024 : decode code 1024 = .ok (.iadd, 1) := by decide +kernel
theorem dw_1025 : decode code 1025 = .ok (.iaload, 1) := by decide +kernel
theorem dw_1026 : decode code 1026 = .ok (.invokevirtual 125, 3) := by decide +kernel
theorem dw_1029 : decode code 1029 = .ok (.if_icmp .eq 491, 3) := by decide +kernel
theorem dw_1032 : decode code 1032 = .ok (.iconst 0, 1) := by decide +kernel
theorem dw_1033 : decode code 1033 = .ok (.ireturn, 1) := by decide +kernel
theorem dw_1034 : decode code 1034 = .ok (.aload_n 1, 1) := by decide +kernel
theorem dw_1035 : decode code 1035 = .ok (.aload_n 0, 1) := by decide +kernel
theorem dw_1036 : decode code 1036 = .ok (.iload_n 3, 1) := by decide +kernel
theorem dw_1037 : decode code 1037 = .ok (.iconst 1, 1) := by decide +kernel
theorem dw_1038 : decode code 1038 = .ok (.iadd, 1) := by decide +kernel
theorem dw_1039 : decode code 1039 = .ok (.iaload, 1) := by decide +kernel
theorem dw_1040 : decode code 1040 = .ok (.aload_n 0, 1) := by decide +kernel
theorem dw_1041 : decode code 1041 = .ok (.iload_n 3, 1) := by decide +kernel
theorem dw_1042 : decode code 1042 = .ok (.iconst 2, 1) := by decide +kernel
theorem dw_1043 : decode code 1043 = .ok (.iadd, 1) := by decide +kernel
theorem dw_1044 : decode code 1044 = .ok (.iaload, 1) := by decide +kernel
theorem dw_1045 : decode code 1045 = .ok (.invokevirtual 126, 3) := by decide +kernel
theorem dw_1048 : decode code 1048 = .ok (.aload_n 2, 1) := by decide +kernel
theorem dw_1049 : decode code 1049 = .ok (.aload_n 0, 1) := by decide +kernel
theorem dw_1050 : decode code 1050 = .ok (.iload_n 3, 1) := by decide +kernel
theorem dw_1051 : decode code 1051 = .ok (.iconst 1, 1) := by decide +kernel
theorem dw_1052 : decode code 1052 = .ok (.iadd, 1) := by decide +kernel
theorem dw_1053 : decode code 1053 = .ok (.iaload, 1) := by decide +kernel
theorem dw_1054 : decode code 1054 = .ok (.aload_n 0, 1) := by decide +kernel
theorem dw_1055 : decode code 1055 = .ok (.iload_n 3, 1) := by decide +kernel
theorem dw_1056 : decode code 1056 = .ok (.iconst 2, 1) := by decide +kernel
theorem dw_1057 : decode code 1057 = .ok (.iadd, 1) := by decide +kernel
theorem dw_1058 : decode code 1058 = .ok (.iaload, 1) := by decide +kernel
theorem dw_1059 : decode code 1059 = .ok (.invokevirtual 130, 3) := by decide +kernel
theorem dw_1062 : decode code 1062 = .ok (.if_icmp .eq 458, 3) := by decide +kernel
theorem dw_1065 : decode code 1065 = .ok (.iconst 0, 1) := by decide +kernel
theorem dw_1066 : decode code 1066 = .ok (.ireturn, 1) := by decide +kernel
theorem dw_1067 : decode code 1067 = .ok (.aload_n 1, 1) := by decide +kernel
theorem dw_1068 : decode code 1068 = .ok (.aload_n 0, 1) := by decide +kernel
theorem dw_1069 : decode code 1069 = .ok (.iload_n 3, 1) := by decide +kernel
theorem dw_1070 : decode code 1070 = .ok (.iconst 1, 1) := by decide +kernel
theorem dw_1071 : decode code 1071 = .ok (.iadd, 1) := by decide +kernel
theorem dw_1072 : decode code 1072 = .ok (.iaload, 1) := by decide +kernel
theorem dw_1073 : decode code 1073 = .ok (.invokevirtual 131, 3) := by decide +kernel
theorem dw_1076 : decode code 1076 = .ok (.aload_n 2, 1) := by decide +kernel
theorem dw_1077 : decode code 1077 = .ok (.aload_n 0, 1) := by decide +kernel
theorem dw_1078 : decode code 1078 = .ok (.iload_n 3, 1) := by decide +kernel
theorem dw_1079 : decode code 1079 = .ok (.iconst 1, 1) := by decide +kernel
theorem dw_1080 : decode code 1080 = .ok (.iadd, 1) := by decide +kernel
theorem dw_1081 : decode code 1081 = .ok (.iaload, 1) := by decide +kernel
theorem dw_1082 : decode code 1082 = .ok (.invokevirtual 134, 3) := by decide +kernel
theorem dw_1085 : decode code 1085 = .ok (.if_icmp .eq 435, 3) := by decide +kernel
theorem dw_1088 : decode code 1088 = .ok (.iconst 0, 1) := by decide +kernel
theorem dw_1089 : decode code 1089 = .ok (.ireturn, 1) := by decide +kernel
theorem dw_1090 : decode code 1090 = .ok (.aload_n 1, 1) := by decide +kernel
theorem dw_1091 : decode code 1091 = .ok (.invokevirtual 135, 3) := by decide +kernel
theorem dw_1094 : decode code 1094 = .ok (.aload_n 2, 1) := by decide +kernel
theorem dw_1095 : decode code 1095 = .ok (.invokevirtual 138, 3) := by decide +kernel
theorem dw_1098 : decode code 1098 = .ok (.if_icmp .eq 422, 3) := by decide +kernel
theorem dw_1101 : decode code 1101 = .ok (.iconst 0, 1) := by decide +kernel
theorem dw_1102 : decode code 1102 = .ok (.ireturn, 1) := by decide +kernel
theorem dw_1103 : decode code 1103 = .ok (.aload_n 1, 1) := by decide +kernel
theorem dw_1104 : decode code 1104 = .ok (.invokevirtual 139, 3) := by decide +kernel
theorem dw_1107 : decode code 1107 = .ok (.aload_n 2, 1) := by decide +kernel
theorem dw_1108 : decode code 1108 = .ok (.invokevirtual 142, 3) := by decide +kernel
theorem dw_1111 : decode code 1111 = .ok (.if_icmp .eq 409, 3) := by decide +kernel
theorem dw_1114 : decode code 1114 = .ok (.iconst 0, 1) := by decide +kernel
theorem dw_1115 : decode code 1115 = .ok (.ireturn, 1) := by decide +kernel
theorem dw_1116 : decode code 1116 = .ok (.aload_n 1, 1) := by decide +kernel
theorem dw_1117 : decode code 1117 = .ok (.invokevirtual 143, 3) := by decide +kernel
theorem dw_1120 : decode code 1120 = .ok (.aload_n 2, 1) := by decide +kernel
theorem dw_1121 : decode code 1121 = .ok (.invokevirtual 146, 3) := by decide +kernel
theorem dw_1124 : decode code 1124 = .ok (.if_icmp .eq 396, 3) := by decide +kernel
theorem dw_1127 : decode code 1127 = .ok (.iconst 0, 1) := by decide +kernel
theorem dw_1128 : decode code 1128 = .ok (.ireturn, 1) := by decide +kernel
theorem dw_1129 : decode code 1129 = .ok (.aload_n 1, 1) := by decide +kernel
theorem dw_1130 : decode code 1130 = .ok (.invokevirtual 147, 3) := by decide +kernel
theorem dw_1133 : decode code 1133 = .ok (.aload_n 2, 1) := by decide +kernel
theorem dw_1134 : decode code 1134 = .ok (.invokevirtual 150, 3) := by decide +kernel
theorem dw_1137 : decode code 1137 = .ok (.if_icmp .eq 383, 3) := by decide +kernel
theorem dw_1140 : decode code 1140 = .ok (.iconst 0, 1) := by decide +kernel
theorem dw_1141 : decode code 1141 = .ok (.ireturn, 1) := by decide +kernel
theorem dw_1142 : decode code 1142 = .ok (.aload_n 1, 1) := by decide +kernel
theorem dw_1143 : decode code 1143 = .ok (.aload_n 0, 1) := by decide +kernel
theorem dw_1144 : decode code 1144 = .ok (.iload_n 3, 1) := by decide +kernel
theorem dw_1145 : decode code 1145 = .ok (.iconst 1, 1) := by decide +kernel
theorem dw_1146 : decode code 1146 = .ok (.iadd, 1) := by decide +kernel
theorem dw_1147 : decode code 1147 = .ok (.iaload, 1) := by decide +kernel
theorem dw_1148 : decode code 1148 = .ok (.invokevirtual 151, 3) := by decide +kernel
theorem dw_1151 : decode code 1151 = .ok (.aload_n 2, 1) := by decide +kernel
theorem dw_1152 : decode code 1152 = .ok (.aload_n 0, 1) := by decide +kernel
theorem dw_1153 : decode code 1153 = .ok (.iload_n 3, 1) := by decide +kernel
theorem dw_1154 : decode code 1154 = .ok (.iconst 1, 1) := by decide +kernel
theorem dw_1155 : decode code 1155 = .ok (.iadd, 1) := by decide +kernel
theorem dw_1156 : decode code 1156 = .ok (.iaload, 1) := by decide +kernel
theorem dw_1157 : decode code 1157 = .ok (.invokevirtual 154, 3) := by decide +kernel
theorem dw_1160 : decode code 1160 = .ok (.if_icmp .eq 360, 3) := by decide +kernel
theorem dw_1163 : decode code 1163 = .ok (.iconst 0, 1) := by decide +kernel
theorem dw_1164 : decode code 1164 = .ok (.ireturn, 1) := by decide +kernel
theorem dw_1165 : decode code 1165 = .ok (.aload_n 1, 1) := by decide +kernel
theorem dw_1166 : decode code 1166 = .ok (.aload_n 0, 1) := by decide +kernel
theorem dw_1167 : decode code 1167 = .ok (.iload_n 3, 1) := by decide +kernel
theorem dw_1168 : decode code 1168 = .ok (.iconst 1, 1) := by decide +kernel
theorem dw_1169 : decode code 1169 = .ok (.iadd, 1) := by decide +kernel
theorem dw_1170 : decode code 1170 = .ok (.iaload, 1) := by decide +kernel
theorem dw_1171 : decode code 1171 = .ok (.invokevirtual 155, 3) := by decide +kernel
theorem dw_1174 : decode code 1174 = .ok (.aload_n 2, 1) := by decide +kernel
theorem dw_1175 : decode code 1175 = .ok (.aload_n 0, 1) := by decide +kernel
theorem dw_1176 : decode code 1176 = .ok (.iload_n 3, 1) := by decide +kernel
theorem dw_1177 : decode code 1177 = .ok (.iconst 1, 1) := by decide +kernel
theorem dw_1178 : decode code 1178 = .ok (.iadd, 1) := by decide +kernel
theorem dw_1179 : decode code 1179 = .ok (.iaload, 1) := by decide +kernel
theorem dw_1180 : decode code 1180 = .ok (.invokevirtual 158, 3) := by decide +kernel
theorem dw_1183 : decode code 1183 = .ok (.if_icmp .eq 337, 3) := by decide +kernel
theorem dw_1186 : decode code 1186 = .ok (.iconst 0, 1) := by decide +kernel
theorem dw_1187 : decode code 1187 = .ok (.ireturn, 1) := by decide +kernel
theorem dw_1188 : decode code 1188 = .ok (.aload_n 1, 1) := by decide +kernel
theorem dw_1189 : decode code 1189 = .ok (.aload_n 0, 1) := by decide +kernel
theorem dw_1190 : decode code 1190 = .ok (.iload_n 3, 1) := by decide +kernel
theorem dw_1191 : decode code 1191 = .ok (.iconst 1, 1) := by decide +kernel
theorem dw_1192 : decode code 1192 = .ok (.iadd, 1) := by decide +kernel
theorem dw_1193 : decode code 1193 = .ok (.iaload, 1) := by decide +kernel
theorem dw_1194 : decode code 1194 = .ok (.aload_n 0, 1) := by decide +kernel
theorem dw_1195 : decode code 1195 = .ok (.iload_n 3, 1) := by decide +kernel
theorem dw_1196 : decode code 1196 = .ok (.iconst 2, 1) := by decide +kernel
theorem dw_1197 : decode code 1197 = .ok (.iadd, 1) := by decide +kernel
theorem dw_1198 : decode code 1198 = .ok (.iaload, 1) := by decide +kernel
theorem dw_1199 : decode code 1199 = .ok (.invokevirtual 159, 3) := by decide +kernel
theorem dw_1202 : decode code 1202 = .ok (.aload_n 2, 1) := by decide +kernel
theorem dw_1203 : decode code 1203 = .ok (.aload_n 0, 1) := by decide +kernel
theorem dw_1204 : decode code 1204 = .ok (.iload_n 3, 1) := by decide +kernel
theorem dw_1205 : decode code 1205 = .ok (.iconst 1, 1) := by decide +kernel
theorem dw_1206 : decode code 1206 = .ok (.iadd, 1) := by decide +kernel
theorem dw_1207 : decode code 1207 = .ok (.iaload, 1) := by decide +kernel
theorem dw_1208 : decode code 1208 = .ok (.aload_n 0, 1) := by decide +kernel
theorem dw_1209 : decode code 1209 = .ok (.iload_n 3, 1) := by decide +kernel
theorem dw_1210 : decode code 1210 = .ok (.iconst 2, 1) := by decide +kernel
theorem dw_1211 : decode code 1211 = .ok (.iadd, 1) := by decide +kernel
theorem dw_1212 : decode code 1212 = .ok (.iaload, 1) := by decide +kernel
theorem dw_1213 : decode code 1213 = .ok (.invokevirtual 162, 3) := by decide +kernel
theorem dw_1216 : decode code 1216 = .ok (.if_icmp .eq 304, 3) := by decide +kernel
theorem dw_1219 : decode code 1219 = .ok (.iconst 0, 1) := by decide +kernel
theorem dw_1220 : decode code 1220 = .ok (.ireturn, 1) := by decide +kernel
theorem dw_1221 : decode code 1221 = .ok (.aload_n 1, 1) := by decide +kernel
theorem dw_1222 : decode code 1222 = .ok (.aload_n 0, 1) := by decide +kernel
theorem dw_1223 : decode code 1223 = .ok (.iload_n 3, 1) := by decide +kernel
theorem dw_1224 : decode code 1224 = .ok (.iconst 1, 1) := by decide +kernel
theorem dw_1225 : decode code 1225 = .ok (.iadd, 1) := by decide +kernel
theorem dw_1226 : decode code 1226 = .ok (.iaload, 1) := by decide +kernel
theorem dw_1227 : decode code 1227 = .ok (.invokevirtual 163, 3) := by decide +kernel
theorem dw_1230 : decode code 1230 = .ok (.aload_n 2, 1) := by decide +kernel
theorem dw_1231 : decode code 1231 = .ok (.aload_n 0, 1) := by decide +kernel
theorem dw_1232 : decode code 1232 = .ok (.iload_n 3, 1) := by decide +kernel
theorem dw_1233 : decode code 1233 = .ok (.iconst 1, 1) := by decide +kernel
theorem dw_1234 : decode code 1234 = .ok (.iadd, 1) := by decide +kernel
theorem dw_1235 : decode code 1235 = .ok (.iaload, 1) := by decide +kernel
theorem dw_1236 : decode code 1236 = .ok (.invokevirtual 166, 3) := by decide +kernel
theorem dw_1239 : decode code 1239 = .ok (.if_icmp .eq 281, 3) := by decide +kernel
theorem dw_1242 : decode code 1242 = .ok (.iconst 0, 1) := by decide +kernel
theorem dw_1243 : decode code 1243 = .ok (.ireturn, 1) := by decide +kernel
theorem dw_1244 : decode code 1244 = .ok (.aload_n 1, 1) := by decide +kernel
theorem dw_1245 : decode code 1245 = .ok (.aload_n 0, 1) := by decide +kernel
theorem dw_1246 : decode code 1246 = .ok (.iload_n 3, 1) := by decide +kernel
theorem dw_1247 : decode code 1247 = .ok (.iconst 1, 1) := by decide +kernel
theorem dw_1248 : decode code 1248 = .ok (.iadd, 1) := by decide +kernel
theorem dw_1249 : decode code 1249 = .ok (.iaload, 1) := by decide +kernel
theorem dw_1250 : decode code 1250 = .ok (.invokevirtual 167, 3) := by decide +kernel
theorem dw_1253 : decode code 1253 = .ok (.aload_n 2, 1) := by decide +kernel
theorem dw_1254 : decode code 1254 = .ok (.aload_n 0, 1) := by decide +kernel
theorem dw_1255 : decode code 1255 = .ok (.iload_n 3, 1) := by decide +kernel
theorem dw_1256 : decode code 1256 = .ok (.iconst 1, 1) := by decide +kernel
theorem dw_1257 : decode code 1257 = .ok (.iadd, 1) := by decide +kernel
theorem dw_1258 : decode code 1258 = .ok (.iaload, 1) := by decide +kernel
theorem dw_1259 : decode code 1259 = .ok (.invokevirtual 170, 3) := by decide +kernel
theorem dw_1262 : decode code 1262 = .ok (.if_icmp .eq 258, 3) := by decide +kernel
theorem dw_1265 : decode code 1265 = .ok (.iconst 0, 1) := by decide +kernel
theorem dw_1266 : decode code 1266 = .ok (.ireturn, 1) := by decide +kernel
theorem dw_1267 : decode code 1267 = .ok (.aload_n 1, 1) := by decide +kernel
theorem dw_1268 : decode code 1268 = .ok (.aload_n 0, 1) := by decide +kernel
theorem dw_1269 : decode code 1269 = .ok (.iload_n 3, 1) := by decide +kernel
theorem dw_1270 : decode code 1270 = .ok (.iconst 1, 1) := by decide +kernel
theorem dw_1271 : decode code 1271 = .ok (.iadd, 1) := by decide +kernel
theorem dw_1272 : decode code 1272 = .ok (.iaload, 1) := by decide +kernel
theorem dw_1273 : decode code 1273 = .ok (.invokevirtual 171, 3) := by decide +kernel
theorem dw_1276 : decode code 1276 = .ok (.aload_n 2, 1) := by decide +kernel
theorem dw_1277 : decode code 1277 = .ok (.aload_n 0, 1) := by decide +kernel
theorem dw_1278 : decode code 1278 = .ok (.iload_n 3, 1) := by decide +kernel
theorem dw_1279 : decode code 1279 = .ok (.iconst 1, 1) := by decide +kernel
theorem dw_1280 : decode code 1280 = .ok (.iadd, 1) := by decide +kernel
theorem dw_1281 : decode code 1281 = .ok (.iaload, 1) := by decide +kernel
theorem dw_1282 : decode code 1282 = .ok (.invokevirtual 174, 3) := by decide +kernel
theorem dw_1285 : decode code 1285 = .ok (.if_icmp .eq 235, 3) := by decide +kernel
theorem dw_1288 : decode code 1288 = .ok (.iconst 0, 1) := by decide +kernel
theorem dw_1289 : decode code 1289 = .ok (.ireturn, 1) := by decide +kernel
theorem dw_1290 : decode code 1290 = .ok (.aload_n 1, 1) := by decide +kernel
theorem dw_1291 : decode code 1291 = .ok (.aload_n 0, 1) := by decide +kernel
theorem dw_1292 : decode code 1292 = .ok (.iload_n 3, 1) := by decide +kernel
theorem dw_1293 : decode code 1293 = .ok (.iconst 1, 1) := by decide +kernel
theorem dw_1294 : decode code 1294 = .ok (.iadd, 1) := by decide +kernel
theorem dw_1295 : decode code 1295 = .ok (.iaload, 1) := by decide +kernel
theorem dw_1296 : decode code 1296 = .ok (.invokevirtual 175, 3) := by decide +kernel
theorem dw_1299 : decode code 1299 = .ok (.aload_n 2, 1) := by decide +kernel
theorem dw_1300 : decode code 1300 = .ok (.aload_n 0, 1) := by decide +kernel
theorem dw_1301 : decode code 1301 = .ok (.iload_n 3, 1) := by decide +kernel
theorem dw_1302 : decode code 1302 = .ok (.iconst 1, 1) := by decide +kernel
theorem dw_1303 : decode code 1303 = .ok (.iadd, 1) := by decide +kernel
theorem dw_1304 : decode code 1304 = .ok (.iaload, 1) := by decide +kernel
theorem dw_1305 : decode code 1305 = .ok (.invokevirtual 178, 3) := by decide +kernel
theorem dw_1308 : decode code 1308 = .ok (.if_icmp .eq 212, 3) := by decide +kernel
theorem dw_1311 : decode code 1311 = .ok (.iconst 0, 1) := by decide +kernel
theorem dw_1312 : decode code 1312 = .ok (.ireturn, 1) := by decide +kernel
theorem dw_1313 : decode code 1313 = .ok (.aload_n 1, 1) := by decide +kernel
theorem dw_1314 : decode code 1314 = .ok (.aload_n 0, 1) := by decide +kernel
theorem dw_1315 : decode code 1315 = .ok (.iload_n 3, 1) := by decide +kernel
theorem dw_1316 : decode code 1316 = .ok (.iconst 1, 1) := by decide +kernel
theorem dw_1317 : decode code 1317 = .ok (.iadd, 1) := by decide +kernel
theorem dw_1318 : decode code 1318 = .ok (.iaload, 1) := by decide +kernel
theorem dw_1319 : decode code 1319 = .ok (.invokevirtual 179, 3) := by decide +kernel
theorem dw_1322 : decode code 1322 = .ok (.aload_n 2, 1) := by decide +kernel
theorem dw_1323 : decode code 1323 = .ok (.aload_n 0, 1) := by decide +kernel
theorem dw_1324 : decode code 1324 = .ok (.iload_n 3, 1) := by decide +kernel
theorem dw_1325 : decode code 1325 = .ok (.iconst 1, 1) := by decide +kernel
theorem dw_1326 : decode code 1326 = .ok (.iadd, 1) := by decide +kernel
theorem dw_1327 : decode code 1327 = .ok (.iaload, 1) := by decide +kernel
theorem dw_1328 : decode code 1328 = .ok (.invokevirtual 182, 3) := by decide +kernel
theorem dw_1331 : decode code 1331 = .ok (.if_icmp .eq 189, 3) := by decide +kernel
theorem dw_1334 : decode code 1334 = .ok (.iconst 0, 1) := by decide +kernel
theorem dw_1335 : decode code 1335 = .ok (.ireturn, 1) := by decide +kernel
theorem dw_1336 : decode code 1336 = .ok (.aload_n 1, 1) := by decide +kernel
theorem dw_1337 : decode code 1337 = .ok (.aload_n 0, 1) := by decide +kernel
theorem dw_1338 : decode code 1338 = .ok (.iload_n 3, 1) := by decide +kernel
theorem dw_1339 : decode code 1339 = .ok (.iconst 1, 1) := by decide +kernel
theorem dw_1340 : decode code 1340 = .ok (.iadd, 1) := by decide +kernel
theorem dw_1341 : decode code 1341 = .ok (.iaload, 1) := by decide +kernel
theorem dw_1342 : decode code 1342 = .ok (.invokevirtual 183, 3) := by decide +kernel
theorem dw_1345 : decode code 1345 = .ok (.aload_n 2, 1) := by decide +kernel
theorem dw_1346 : decode code 1346 = .ok (.aload_n 0, 1) := by decide +kernel
theorem dw_1347 : decode code 1347 = .ok (.iload_n 3, 1) := by decide +kernel
theorem dw_1348 : decode code 1348 = .ok (.iconst 1, 1) := by decide +kernel
theorem dw_1349 : decode code 1349 = .ok (.iadd, 1) := by decide +kernel
theorem dw_1350 : decode code 1350 = .ok (.iaload, 1) := by decide +kernel
theorem dw_1351 : decode code 1351 = .ok (.invokevirtual 186, 3) := by decide +kernel
theorem dw_1354 : decode code 1354 = .ok (.if_icmp .eq 166, 3) := by decide +kernel
theorem dw_1357 : decode code 1357 = .ok (.iconst 0, 1) := by decide +kernel
theorem dw_1358 : decode code 1358 = .ok (.ireturn, 1) := by decide +kernel
theorem dw_1359 : decode code 1359 = .ok (.aload_n 1, 1) := by decide +kernel
theorem dw_1360 : decode code 1360 = .ok (.aload_n 0, 1) := by decide +kernel
theorem dw_1361 : decode code 1361 = .ok (.iload_n 3, 1) := by decide +kernel
theorem dw_1362 : decode code 1362 = .ok (.iconst 1, 1) := by decide +kernel
theorem dw_1363 : decode code 1363 = .ok (.iadd, 1) := by decide +kernel
theorem dw_1364 : decode code 1364 = .ok (.iaload, 1) := by decide +kernel
theorem dw_1365 : decode code 1365 = .ok (.aload_n 0, 1) := by decide +kernel
theorem dw_1366 : decode code 1366 = .ok (.iload_n 3, 1) := by decide +kernel
theorem dw_1367 : decode code 1367 = .ok (.iconst 2, 1) := by decide +kernel
theorem dw_1368 : decode code 1368 = .ok (.iadd, 1) := by decide +kernel
theorem dw_1369 : decode code 1369 = .ok (.iaload, 1) := by decide +kernel
theorem dw_1370 : decode code 1370 = .ok (.invokevirtual 187, 3) := by decide +kernel
theorem dw_1373 : decode code 1373 = .ok (.aload_n 2, 1) := by decide +kernel
theorem dw_1374 : decode code 1374 = .ok (.aload_n 0, 1) := by decide +kernel
theorem dw_1375 : decode code 1375 = .ok (.iload_n 3, 1) := by decide +kernel
theorem dw_1376 : decode code 1376 = .ok (.iconst 1, 1) := by decide +kernel
theorem dw_1377 : decode code 1377 = .ok (.iadd, 1) := by decide +kernel
theorem dw_1378 : decode code 1378 = .ok (.iaload, 1) := by decide +kernel
theorem dw_1379 : decode code 1379 = .ok (.aload_n 0, 1) := by decide +kernel
theorem dw_1380 : decode code 1380 = .ok (.iload_n 3, 1) := by decide +kernel
theorem dw_1381 : decode code 1381 = .ok (.iconst 2, 1) := by decide +kernel
theorem dw_1382 : decode code 1382 = .ok (.iadd, 1) := by decide +kernel
theorem dw_1383 : decode code 1383 = .ok (.iaload, 1) := by decide +kernel
theorem dw_1384 : decode code 1384 = .ok (.invokevirtual 190, 3) := by decide +kernel
theorem dw_1387 : decode code 1387 = .ok (.if_icmp .eq 133, 3) := by decide +kernel
theorem dw_1390 : decode code 1390 = .ok (.iconst 0, 1) := by decide +kernel
theorem dw_1391 : decode code 1391 = .ok (.ireturn, 1) := by decide +kernel
theorem dw_1392 : decode code 1392 = .ok (.aload_n 1, 1) := by decide +kernel
theorem dw_1393 : decode code 1393 = .ok (.aload_n 0, 1) := by decide +kernel
theorem dw_1394 : decode code 1394 = .ok (.iload_n 3, 1) := by decide +kernel
theorem dw_1395 : decode code 1395 = .ok (.iconst 1, 1) := by decide +kernel
theorem dw_1396 : decode code 1396 = .ok (.iadd, 1) := by decide +kernel
theorem dw_1397 : decode code 1397 = .ok (.iaload, 1) := by decide +kernel
theorem dw_1398 : decode code 1398 = .ok (.invokevirtual 191, 3) := by decide +kernel
theorem dw_1401 : decode code 1401 = .ok (.aload_n 2, 1) := by decide +kernel
theorem dw_1402 : decode code 1402 = .ok (.aload_n 0, 1) := by decide +kernel
theorem dw_1403 : decode code 1403 = .ok (.iload_n 3, 1) := by decide +kernel
theorem dw_1404 : decode code 1404 = .ok (.iconst 1, 1) := by decide +kernel
theorem dw_1405 : decode code 1405 = .ok (.iadd, 1) := by decide +kernel
theorem dw_1406 : decode code 1406 = .ok (.iaload, 1) := by decide +kernel
theorem dw_1407 : decode code 1407 = .ok (.invokevirtual 194, 3) := by decide +kernel
theorem dw_1410 : decode code 1410 = .ok (.if_icmp .eq 110, 3) := by decide +kernel
theorem dw_1413 : decode code 1413 = .ok (.iconst 0, 1) := by decide +kernel
theorem dw_1414 : decode code 1414 = .ok (.ireturn, 1) := by decide +kernel
theorem dw_1415 : decode code 1415 = .ok (.aload_n 1, 1) := by decide +kernel
theorem dw_1416 : decode code 1416 = .ok (.aload_n 0, 1) := by decide +kernel
theorem dw_1417 : decode code 1417 = .ok (.iload_n 3, 1) := by decide +kernel
theorem dw_1418 : decode code 1418 = .ok (.iconst 1, 1) := by decide +kernel
theorem dw_1419 : decode code 1419 = .ok (.iadd, 1) := by decide +kernel
theorem dw_1420 : decode code 1420 = .ok (.iaload, 1) := by decide +kernel
theorem dw_1421 : decode code 1421 = .ok (.invokevirtual 195, 3) := by decide +kernel
theorem dw_1424 : decode code 1424 = .ok (.aload_n 2, 1) := by decide +kernel
theorem dw_1425 : decode code 1425 = .ok (.aload_n 0, 1) := by decide +kernel
theorem dw_1426 : decode code 1426 = .ok (.iload_n 3, 1) := by decide +kernel
theorem dw_1427 : decode code 1427 = .ok (.iconst 1, 1) := by decide +kernel
theorem dw_1428 : decode code 1428 = .ok (.iadd, 1) := by decide +kernel
theorem dw_1429 : decode code 1429 = .ok (.iaload, 1) := by decide +kernel
theorem dw_1430 : decode code 1430 = .ok (.invokevirtual 198, 3) := by decide +kernel
theorem dw_1433 : decode code 1433 = .ok (.if_icmp .eq 87, 3) := by decide +kernel
theorem dw_1436 : decode code 1436 = .ok (.iconst 0, 1) := by decide +kernel
theorem dw_1437 : decode code 1437 = .ok (.ireturn, 1) := by decide +kernel
theorem dw_1438 : decode code 1438 = .ok (.aload_n 1, 1) := by decide +kernel
theorem dw_1439 : decode code 1439 = .ok (.aload_n 0, 1) := by decide +kernel
theorem dw_1440 : decode code 1440 = .ok (.iload_n 3, 1) := by decide +kernel
theorem dw_1441 : decode code 1441 = .ok (.iconst 1, 1) := by decide +kernel
theorem dw_1442 : decode code 1442 = .ok (.iadd, 1) := by decide +kernel
theorem dw_1443 : decode code 1443 = .ok (.iaload, 1) := by decide +kernel
theorem dw_1444 : decode code 1444 = .ok (.invokevirtual 199, 3) := by decide +kernel
theorem dw_1447 : decode code 1447 = .ok (.aload_n 2, 1) := by decide +kernel
theorem dw_1448 : decode code 1448 = .ok (.aload_n 0, 1) := by decide +kernel
theorem dw_1449 : decode code 1449 = .ok (.iload_n 3, 1) := by decide +kernel
theorem dw_1450 : decode code 1450 = .ok (.iconst 1, 1) := by decide +kernel
theorem dw_1451 : decode code 1451 = .ok (.iadd, 1) := by decide +kernel
theorem dw_1452 : decode code 1452 = .ok (.iaload, 1) := by decide +kernel
theorem dw_1453 : decode code 1453 = .ok (.invokevirtual 202, 3) := by decide +kernel
theorem dw_1456 : decode code 1456 = .ok (.if_icmp .eq 64, 3) := by decide +kernel
theorem dw_1459 : decode code 1459 = .ok (.iconst 0, 1) := by decide +kernel
theorem dw_1460 : decode code 1460 = .ok (.ireturn, 1) := by decide +kernel
theorem dw_1461 : decode code 1461 = .ok (.aload_n 1, 1) := by decide +kernel
theorem dw_1462 : decode code 1462 = .ok (.aload_n 0, 1) := by decide +kernel
theorem dw_1463 : decode code 1463 = .ok (.iload_n 3, 1) := by decide +kernel
theorem dw_1464 : decode code 1464 = .ok (.iconst 1, 1) := by decide +kernel
theorem dw_1465 : decode code 1465 = .ok (.iadd, 1) := by decide +kernel
theorem dw_1466 : decode code 1466 = .ok (.iaload, 1) := by decide +kernel
theorem dw_1467 : decode code 1467 = .ok (.aload_n 0, 1) := by decide +kernel
theorem dw_1468 : decode code 1468 = .ok (.iload_n 3, 1) := by decide +kernel
theorem dw_1469 : decode code 1469 = .ok (.iconst 2, 1) := by decide +kernel
theorem dw_1470 : decode code 1470 = .ok (.iadd, 1) := by decide +kernel
theorem dw_1471 : decode code 1471 = .ok (.iaload, 1) := by decide +kernel
theorem dw_1472 : decode code 1472 = .ok (.invokevirtual 203, 3) := by decide +kernel
theorem dw_1475 : decode code 1475 = .ok (.aload_n 2, 1) := by decide +kernel
theorem dw_1476 : decode code 1476 = .ok (.aload_n 0, 1) := by decide +kernel
theorem dw_1477 : decode code 1477 = .ok (.iload_n 3, 1) := by decide +kernel
theorem dw_1478 : decode code 1478 = .ok (.iconst 1, 1) := by decide +kernel
theorem dw_1479 : decode code 1479 = .ok (.iadd, 1) := by decide +kernel
theorem dw_1480 : decode code 1480 = .ok (.iaload, 1) := by decide +kernel
theorem dw_1481 : decode code 1481 = .ok (.aload_n 0, 1) := by decide +kernel
theorem dw_1482 : decode code 1482 = .ok (.iload_n 3, 1) := by decide +kernel
theorem dw_1483 : decode code 1483 = .ok (.iconst 2, 1) := by decide +kernel
theorem dw_1484 : decode code 1484 = .ok (.iadd, 1) := by decide +kernel
theorem dw_1485 : decode code 1485 = .ok (.iaload, 1) := by decide +kernel
theorem dw_1486 : decode code 1486 = .ok (.invokevirtual 206, 3) := by decide +kernel
theorem dw_1489 : decode code 1489 = .ok (.if_icmp .eq 31, 3) := by decide +kernel
theorem dw_1492 : decode code 1492 = .ok (.iconst 0, 1) := by decide +kernel
theorem dw_1493 : decode code 1493 = .ok (.ireturn, 1) := by decide +kernel
theorem dw_1494 : decode code 1494 = .ok (.aload_n 1, 1) := by decide +kernel
theorem dw_1495 : decode code 1495 = .ok (.invokevirtual 207, 3) := by decide +kernel
theorem dw_1498 : decode code 1498 = .ok (.aload_n 2, 1) := by decide +kernel
theorem dw_1499 : decode code 1499 = .ok (.invokevirtual 210, 3) := by decide +kernel
theorem dw_1502 : decode code 1502 = .ok (.if_icmp .eq 18, 3) := by decide +kernel
theorem dw_1505 : decode code 1505 = .ok (.iconst 0, 1) := by decide +kernel
theorem dw_1506 : decode code 1506 = .ok (.ireturn, 1) := by decide +kernel
theorem dw_1507 : decode code 1507 = .ok (.aload_n 1, 1) := by decide +kernel
theorem dw_1508 : decode code 1508 = .ok (.invokevirtual 211, 3) := by decide +kernel
theorem dw_1511 : decode code 1511 = .ok (.aload_n 2, 1) := by decide +kernel
theorem dw_1512 : decode code 1512 = .ok (.invokevirtual 214, 3) := by decide +kernel
theorem dw_1515 : decode code 1515 = .ok (.if_icmp .eq 5, 3) := by decide +kernel
theorem dw_1518 : decode code 1518 = .ok (.iconst 0, 1) := by decide +kernel
theorem dw_1519 : decode code 1519 = .ok (.ireturn, 1) := by decide +kernel
theorem dw_1520 : decode code 1520 = .ok (.iinc 3 6, 3) := by decide +kernel
theorem dw_1523 : decode code 1523 = .ok (.goto (-1505), 3) := by decide +kernel
theorem dw_1526 : decode code 1526 = .ok (.iconst 1, 1) := by decide +kernel
theorem dw_1527 : decode code 1527 = .ok (.ireturn, 1) := by decide +kernel
