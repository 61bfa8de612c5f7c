/-! the law: by program (wip/whole/gen.py) -/
theorem dL_law_0 : decode cL_law 0 = .ok (.new 7, 3) := by decide +kernel
theorem dL_law_3 : decode cL_law 3 = .ok (.dup, 1) := by decide +kernel
theorem dL_law_4 : decode cL_law 4 = .ok (.invokespecial 9, 3) := by decide +kernel
theorem dL_law_7 : decode cL_law 7 = .ok (.astore_n 1, 1) := by decide +kernel
theorem dL_law_8 : decode cL_law 8 = .ok (.new 10, 3) := by decide +kernel
theorem dL_law_11 : decode cL_law 11 = .ok (.dup, 1) := by decide +kernel
theorem dL_law_12 : decode cL_law 12 = .ok (.invokespecial 12, 3) := by decide +kernel
theorem dL_law_15 : decode cL_law 15 = .ok (.astore_n 2, 1) := by decide +kernel
theorem dL_law_16 : decode cL_law 16 = .ok (.iconst 0, 1) := by decide +kernel
theorem dL_law_17 : decode cL_law 17 = .ok (.istore_n 3, 1) := by decide +kernel
theorem dL_law_18 : decode cL_law 18 = .ok (.iload_n 3, 1) := by decide +kernel
theorem dL_law_19 : decode cL_law 19 = .ok (.aload_n 0, 1) := by decide +kernel
theorem dL_law_20 : decode cL_law 20 = .ok (.arraylength, 1) := by decide +kernel
theorem dL_law_21 : decode cL_law 21 = .ok (.bipush 6, 2) := by decide +kernel
theorem dL_law_23 : decode cL_law 23 = .ok (.isub, 1) := by decide +kernel
theorem dL_law_24 : decode cL_law 24 = .ok (.if_icmp .gt 1796, 3) := by decide +kernel
theorem dL_law_27 : decode cL_law 27 = .ok (.aload_n 0, 1) := by decide +kernel
theorem dL_law_28 : decode cL_law 28 = .ok (.iload_n 3, 1) := by decide +kernel
theorem dL_law_29 : decode cL_law 29 = .ok (.iaload, 1) := by decide +kernel
theorem dL_law_30 : decode cL_law 30 = .ok (.bipush 63, 2) := by decide +kernel
theorem dL_law_32 : decode cL_law 32 = .ok (.iand, 1) := by decide +kernel
theorem dL_law_33 : decode cL_law 33 = .ok (.tableswitch 1781 0 55 #[239, 292, 351, 414, 437, 450, 473, 496, 519, 552, 575, 598, 621, 644, 677, 690, 723, 746, 779, 812, 835, 858, 881, 920, 943, 966, 979, 1002, 1015, 1048, 1081, 1114, 1127, 1166, 1215, 1238, 1261, 1274, 1297, 1346, 1395, 1444, 1483, 1506, 1545, 1568, 1591, 1624, 1657, 1670, 1683, 1696, 1709, 1732, 1745, 1758], 239) := by decide +kernel
theorem dL_law_272 : decode cL_law 272 = .ok (.aload_n 1, 1) := by decide +kernel
theorem dL_law_273 : decode cL_law 273 = .ok (.aload_n 0, 1) := by decide +kernel
theorem dL_law_274 : decode cL_law 274 = .ok (.iload_n 3, 1) := by decide +kernel
theorem dL_law_275 : decode cL_law 275 = .ok (.iconst 1, 1) := by decide +kernel
theorem dL_law_276 : decode cL_law 276 = .ok (.iadd, 1) := by decide +kernel
theorem dL_law_277 : decode cL_law 277 = .ok (.iaload, 1) := by decide +kernel
theorem dL_law_278 : decode cL_law 278 = .ok (.aload_n 0, 1) := by decide +kernel
theorem dL_law_279 : decode cL_law 279 = .ok (.iload_n 3, 1) := by decide +kernel
theorem dL_law_280 : decode cL_law 280 = .ok (.iconst 2, 1) := by decide +kernel
theorem dL_law_281 : decode cL_law 281 = .ok (.iadd, 1) := by decide +kernel
theorem dL_law_282 : decode cL_law 282 = .ok (.iaload, 1) := by decide +kernel
theorem dL_law_283 : decode cL_law 283 = .ok (.aload_n 0, 1) := by decide +kernel
theorem dL_law_284 : decode cL_law 284 = .ok (.iload_n 3, 1) := by decide +kernel
theorem dL_law_285 : decode cL_law 285 = .ok (.iconst 3, 1) := by decide +kernel
theorem dL_law_286 : decode cL_law 286 = .ok (.iadd, 1) := by decide +kernel
theorem dL_law_287 : decode cL_law 287 = .ok (.iaload, 1) := by decide +kernel
theorem dL_law_288 : decode cL_law 288 = .ok (.aload_n 0, 1) := by decide +kernel
theorem dL_law_289 : decode cL_law 289 = .ok (.iload_n 3, 1) := by decide +kernel
theorem dL_law_290 : decode cL_law 290 = .ok (.iconst 4, 1) := by decide +kernel
theorem dL_law_291 : decode cL_law 291 = .ok (.iadd, 1) := by decide +kernel
theorem dL_law_292 : decode cL_law 292 = .ok (.iaload, 1) := by decide +kernel
theorem dL_law_293 : decode cL_law 293 = .ok (.invokevirtual 13, 3) := by decide +kernel
theorem dL_law_296 : decode cL_law 296 = .ok (.aload_n 2, 1) := by decide +kernel
theorem dL_law_297 : decode cL_law 297 = .ok (.aload_n 0, 1) := by decide +kernel
theorem dL_law_298 : decode cL_law 298 = .ok (.iload_n 3, 1) := by decide +kernel
theorem dL_law_299 : decode cL_law 299 = .ok (.iconst 1, 1) := by decide +kernel
theorem dL_law_300 : decode cL_law 300 = .ok (.iadd, 1) := by decide +kernel
theorem dL_law_301 : decode cL_law 301 = .ok (.iaload, 1) := by decide +kernel
theorem dL_law_302 : decode cL_law 302 = .ok (.aload_n 0, 1) := by decide +kernel
theorem dL_law_303 : decode cL_law 303 = .ok (.iload_n 3, 1) := by decide +kernel
theorem dL_law_304 : decode cL_law 304 = .ok (.iconst 2, 1) := by decide +kernel
theorem dL_law_305 : decode cL_law 305 = .ok (.iadd, 1) := by decide +kernel
theorem dL_law_306 : decode cL_law 306 = .ok (.iaload, 1) := by decide +kernel
theorem dL_law_307 : decode cL_law 307 = .ok (.aload_n 0, 1) := by decide +kernel
theorem dL_law_308 : decode cL_law 308 = .ok (.iload_n 3, 1) := by decide +kernel
theorem dL_law_309 : decode cL_law 309 = .ok (.iconst 3, 1) := by decide +kernel
theorem dL_law_310 : decode cL_law 310 = .ok (.iadd, 1) := by decide +kernel
theorem dL_law_311 : decode cL_law 311 = .ok (.iaload, 1) := by decide +kernel
theorem dL_law_312 : decode cL_law 312 = .ok (.aload_n 0, 1) := by decide +kernel
theorem dL_law_313 : decode cL_law 313 = .ok (.iload_n 3, 1) := by decide +kernel
theorem dL_law_314 : decode cL_law 314 = .ok (.iconst 4, 1) := by decide +kernel
theorem dL_law_315 : decode cL_law 315 = .ok (.iadd, 1) := by decide +kernel
theorem dL_law_316 : decode cL_law 316 = .ok (.iaload, 1) := by decide +kernel
theorem dL_law_317 : decode cL_law 317 = .ok (.invokevirtual 17, 3) := by decide +kernel
theorem dL_law_320 : decode cL_law 320 = .ok (.if_icmp .eq 1494, 3) := by decide +kernel
theorem dL_law_323 : decode cL_law 323 = .ok (.iconst 0, 1) := by decide +kernel
theorem dL_law_324 : decode cL_law 324 = .ok (.ireturn, 1) := by decide +kernel
theorem dL_law_325 : decode cL_law 325 = .ok (.aload_n 1, 1) := by decide +kernel
theorem dL_law_326 : decode cL_law 326 = .ok (.aload_n 0, 1) := by decide +kernel
theorem dL_law_327 : decode cL_law 327 = .ok (.iload_n 3, 1) := by decide +kernel
theorem dL_law_328 : decode cL_law 328 = .ok (.iconst 1, 1) := by decide +kernel
theorem dL_law_329 : decode cL_law 329 = .ok (.iadd, 1) := by decide +kernel
theorem dL_law_330 : decode cL_law 330 = .ok (.iaload, 1) := by decide +kernel
theorem dL_law_331 : decode cL_law 331 = .ok (.aload_n 0, 1) := by decide +kernel
theorem dL_law_332 : decode cL_law 332 = .ok (.iload_n 3, 1) := by decide +kernel
theorem dL_law_333 : decode cL_law 333 = .ok (.iconst 2, 1) := by decide +kernel
theorem dL_law_334 : decode cL_law 334 = .ok (.iadd, 1) := by decide +kernel
theorem dL_law_335 : decode cL_law 335 = .ok (.iaload, 1) := by decide +kernel
theorem dL_law_336 : decode cL_law 336 = .ok (.aload_n 0, 1) := by decide +kernel
theorem dL_law_337 : decode cL_law 337 = .ok (.iload_n 3, 1) := by decide +kernel
theorem dL_law_338 : decode cL_law 338 = .ok (.iconst 3, 1) := by decide +kernel
theorem dL_law_339 : decode cL_law 339 = .ok (.iadd, 1) := by decide +kernel
theorem dL_law_340 : decode cL_law 340 = .ok (.iaload, 1) := by decide +kernel
theorem dL_law_341 : decode cL_law 341 = .ok (.ifCond .eq 7, 3) := by decide +kernel
theorem dL_law_344 : decode cL_law 344 = .ok (.iconst 1, 1) := by decide +kernel
theorem dL_law_345 : decode cL_law 345 = .ok (.goto 4, 3) := by decide +kernel
theorem dL_law_348 : decode cL_law 348 = .ok (.iconst 0, 1) := by decide +kernel
theorem dL_law_349 : decode cL_law 349 = .ok (.invokevirtual 18, 3) := by decide +kernel
theorem dL_law_352 : decode cL_law 352 = .ok (.aload_n 2, 1) := by decide +kernel
theorem dL_law_353 : decode cL_law 353 = .ok (.aload_n 0, 1) := by decide +kernel
theorem dL_law_354 : decode cL_law 354 = .ok (.iload_n 3, 1) := by decide +kernel
theorem dL_law_355 : decode cL_law 355 = .ok (.iconst 1, 1) := by decide +kernel
theorem dL_law_356 : decode cL_law 356 = .ok (.iadd, 1) := by decide +kernel
theorem dL_law_357 : decode cL_law 357 = .ok (.iaload, 1) := by decide +kernel
theorem dL_law_358 : decode cL_law 358 = .ok (.aload_n 0, 1) := by decide +kernel
theorem dL_law_359 : decode cL_law 359 = .ok (.iload_n 3, 1) := by decide +kernel
theorem dL_law_360 : decode cL_law 360 = .ok (.iconst 2, 1) := by decide +kernel
theorem dL_law_361 : decode cL_law 361 = .ok (.iadd, 1) := by decide +kernel
theorem dL_law_362 : decode cL_law 362 = .ok (.iaload, 1) := by decide +kernel
theorem dL_law_363 : decode cL_law 363 = .ok (.aload_n 0, 1) := by decide +kernel
theorem dL_law_364 : decode cL_law 364 = .ok (.iload_n 3, 1) := by decide +kernel
theorem dL_law_365 : decode cL_law 365 = .ok (.iconst 3, 1) := by decide +kernel
theorem dL_law_366 : decode cL_law 366 = .ok (.iadd, 1) := by decide +kernel
theorem dL_law_367 : decode cL_law 367 = .ok (.iaload, 1) := by decide +kernel
theorem dL_law_368 : decode cL_law 368 = .ok (.ifCond .eq 7, 3) := by decide +kernel
theorem dL_law_371 : decode cL_law 371 = .ok (.iconst 1, 1) := by decide +kernel
theorem dL_law_372 : decode cL_law 372 = .ok (.goto 4, 3) := by decide +kernel
theorem dL_law_375 : decode cL_law 375 = .ok (.iconst 0, 1) := by decide +kernel
theorem dL_law_376 : decode cL_law 376 = .ok (.invokevirtual 22, 3) := by decide +kernel
theorem dL_law_379 : decode cL_law 379 = .ok (.if_icmp .eq 1435, 3) := by decide +kernel
theorem dL_law_382 : decode cL_law 382 = .ok (.iconst 0, 1) := by decide +kernel
theorem dL_law_383 : decode cL_law 383 = .ok (.ireturn, 1) := by decide +kernel
theorem dL_law_384 : decode cL_law 384 = .ok (.aload_n 1, 1) := by decide +kernel
theorem dL_law_385 : decode cL_law 385 = .ok (.aload_n 0, 1) := by decide +kernel
theorem dL_law_386 : decode cL_law 386 = .ok (.iload_n 3, 1) := by decide +kernel
theorem dL_law_387 : decode cL_law 387 = .ok (.iconst 1, 1) := by decide +kernel
theorem dL_law_388 : decode cL_law 388 = .ok (.iadd, 1) := by decide +kernel
theorem dL_law_389 : decode cL_law 389 = .ok (.iaload, 1) := by decide +kernel
theorem dL_law_390 : decode cL_law 390 = .ok (.aload_n 0, 1) := by decide +kernel
theorem dL_law_391 : decode cL_law 391 = .ok (.iload_n 3, 1) := by decide +kernel
theorem dL_law_392 : decode cL_law 392 = .ok (.iconst 2, 1) := by decide +kernel
theorem dL_law_393 : decode cL_law 393 = .ok (.iadd, 1) := by decide +kernel
theorem dL_law_394 : decode cL_law 394 = .ok (.iaload, 1) := by decide +kernel
theorem dL_law_395 : decode cL_law 395 = .ok (.aload_n 0, 1) := by decide +kernel
theorem dL_law_396 : decode cL_law 396 = .ok (.iload_n 3, 1) := by decide +kernel
theorem dL_law_397 : decode cL_law 397 = .ok (.iconst 3, 1) := by decide +kernel
theorem dL_law_398 : decode cL_law 398 = .ok (.iadd, 1) := by decide +kernel
theorem dL_law_399 : decode cL_law 399 = .ok (.iaload, 1) := by decide +kernel
theorem dL_law_400 : decode cL_law 400 = .ok (.aload_n 0, 1) := by decide +kernel
theorem dL_law_401 : decode cL_law 401 = .ok (.iload_n 3, 1) := by decide +kernel
theorem dL_law_402 : decode cL_law 402 = .ok (.iconst 4, 1) := by decide +kernel
theorem dL_law_403 : decode cL_law 403 = .ok (.iadd, 1) := by decide +kernel
theorem dL_law_404 : decode cL_law 404 = .ok (.iaload, 1) := by decide +kernel
theorem dL_law_405 : decode cL_law 405 = .ok (.aload_n 0, 1) := by decide +kernel
theorem dL_law_406 : decode cL_law 406 = .ok (.iload_n 3, 1) := by decide +kernel
theorem dL_law_407 : decode cL_law 407 = .ok (.iconst 5, 1) := by decide +kernel
theorem dL_law_408 : decode cL_law 408 = .ok (.iadd, 1) := by decide +kernel
theorem dL_law_409 : decode cL_law 409 = .ok (.iaload, 1) := by decide +kernel
theorem dL_law_410 : decode cL_law 410 = .ok (.invokevirtual 23, 3) := by decide +kernel
theorem dL_law_413 : decode cL_law 413 = .ok (.aload_n 2, 1) := by decide +kernel
theorem dL_law_414 : decode cL_law 414 = .ok (.aload_n 0, 1) := by decide +kernel
theorem dL_law_415 : decode cL_law 415 = .ok (.iload_n 3, 1) := by decide +kernel
theorem dL_law_416 : decode cL_law 416 = .ok (.iconst 1, 1) := by decide +kernel
theorem dL_law_417 : decode cL_law 417 = .ok (.iadd, 1) := by decide +kernel
theorem dL_law_418 : decode cL_law 418 = .ok (.iaload, 1) := by decide +kernel
theorem dL_law_419 : decode cL_law 419 = .ok (.aload_n 0, 1) := by decide +kernel
theorem dL_law_420 : decode cL_law 420 = .ok (.iload_n 3, 1) := by decide +kernel
theorem dL_law_421 : decode cL_law 421 = .ok (.iconst 2, 1) := by decide +kernel
theorem dL_law_422 : decode cL_law 422 = .ok (.iadd, 1) := by decide +kernel
theorem dL_law_423 : decode cL_law 423 = .ok (.iaload, 1) := by decide +kernel
theorem dL_law_424 : decode cL_law 424 = .ok (.aload_n 0, 1) := by decide +kernel
theorem dL_law_425 : decode cL_law 425 = .ok (.iload_n 3, 1) := by decide +kernel
theorem dL_law_426 : decode cL_law 426 = .ok (.iconst 3, 1) := by decide +kernel
theorem dL_law_427 : decode cL_law 427 = .ok (.iadd, 1) := by decide +kernel
theorem dL_law_428 : decode cL_law 428 = .ok (.iaload, 1) := by decide +kernel
theorem dL_law_429 : decode cL_law 429 = .ok (.aload_n 0, 1) := by decide +kernel
theorem dL_law_430 : decode cL_law 430 = .ok (.iload_n 3, 1) := by decide +kernel
theorem dL_law_431 : decode cL_law 431 = .ok (.iconst 4, 1) := by decide +kernel
theorem dL_law_432 : decode cL_law 432 = .ok (.iadd, 1) := by decide +kernel
theorem dL_law_433 : decode cL_law 433 = .ok (.iaload, 1) := by decide +kernel
theorem dL_law_434 : decode cL_law 434 = .ok (.aload_n 0, 1) := by decide +kernel
theorem dL_law_435 : decode cL_law 435 = .ok (.iload_n 3, 1) := by decide +kernel
theorem dL_law_436 : decode cL_law 436 = .ok (.iconst 5, 1) := by decide +kernel
theorem dL_law_437 : decode cL_law 437 = .ok (.iadd, 1) := by decide +kernel
theorem dL_law_438 : decode cL_law 438 = .ok (.iaload, 1) := by decide +kernel
theorem dL_law_439 : decode cL_law 439 = .ok (.invokevirtual 27, 3) := by decide +kernel
theorem dL_law_442 : decode cL_law 442 = .ok (.if_icmp .eq 1372, 3) := by decide +kernel
theorem dL_law_445 : decode cL_law 445 = .ok (.iconst 0, 1) := by decide +kernel
theorem dL_law_446 : decode cL_law 446 = .ok (.ireturn, 1) := by decide +kernel
theorem dL_law_447 : decode cL_law 447 = .ok (.aload_n 1, 1) := by decide +kernel
theorem dL_law_448 : decode cL_law 448 = .ok (.aload_n 0, 1) := by decide +kernel
theorem dL_law_449 : decode cL_law 449 = .ok (.iload_n 3, 1) := by decide +kernel
theorem dL_law_450 : decode cL_law 450 = .ok (.iconst 1, 1) := by decide +kernel
theorem dL_law_451 : decode cL_law 451 = .ok (.iadd, 1) := by decide +kernel
theorem dL_law_452 : decode cL_law 452 = .ok (.iaload, 1) := by decide +kernel
theorem dL_law_453 : decode cL_law 453 = .ok (.invokevirtual 28, 3) := by decide +kernel
theorem dL_law_456 : decode cL_law 456 = .ok (.aload_n 2, 1) := by decide +kernel
theorem dL_law_457 : decode cL_law 457 = .ok (.aload_n 0, 1) := by decide +kernel
theorem dL_law_458 : decode cL_law 458 = .ok (.iload_n 3, 1) := by decide +kernel
theorem dL_law_459 : decode cL_law 459 = .ok (.iconst 1, 1) := by decide +kernel
theorem dL_law_460 : decode cL_law 460 = .ok (.iadd, 1) := by decide +kernel
theorem dL_law_461 : decode cL_law 461 = .ok (.iaload, 1) := by decide +kernel
theorem dL_law_462 : decode cL_law 462 = .ok (.invokevirtual 32, 3) := by decide +kernel
theorem dL_law_465 : decode cL_law 465 = .ok (.if_icmp .eq 1349, 3) := by decide +kernel
theorem dL_law_468 : decode cL_law 468 = .ok (.iconst 0, 1) := by decide +kernel
theorem dL_law_469 : decode cL_law 469 = .ok (.ireturn, 1) := by decide +kernel
theorem dL_law_470 : decode cL_law 470 = .ok (.aload_n 1, 1) := by decide +kernel
theorem dL_law_471 : decode cL_law 471 = .ok (.invokevirtual 33, 3) := by decide +kernel
theorem dL_law_474 : decode cL_law 474 = .ok (.aload_n 2, 1) := by decide +kernel
theorem dL_law_475 : decode cL_law 475 = .ok (.invokevirtual 37, 3) := by decide +kernel
theorem dL_law_478 : decode cL_law 478 = .ok (.if_icmp .eq 1336, 3) := by decide +kernel
theorem dL_law_481 : decode cL_law 481 = .ok (.iconst 0, 1) := by decide +kernel
theorem dL_law_482 : decode cL_law 482 = .ok (.ireturn, 1) := by decide +kernel
theorem dL_law_483 : decode cL_law 483 = .ok (.aload_n 1, 1) := by decide +kernel
theorem dL_law_484 : decode cL_law 484 = .ok (.aload_n 0, 1) := by decide +kernel
theorem dL_law_485 : decode cL_law 485 = .ok (.iload_n 3, 1) := by decide +kernel
theorem dL_law_486 : decode cL_law 486 = .ok (.iconst 1, 1) := by decide +kernel
theorem dL_law_487 : decode cL_law 487 = .ok (.iadd, 1) := by decide +kernel
theorem dL_law_488 : decode cL_law 488 = .ok (.iaload, 1) := by decide +kernel
theorem dL_law_489 : decode cL_law 489 = .ok (.invokevirtual 38, 3) := by decide +kernel
theorem dL_law_492 : decode cL_law 492 = .ok (.aload_n 2, 1) := by decide +kernel
theorem dL_law_493 : decode cL_law 493 = .ok (.aload_n 0, 1) := by decide +kernel
theorem dL_law_494 : decode cL_law 494 = .ok (.iload_n 3, 1) := by decide +kernel
theorem dL_law_495 : decode cL_law 495 = .ok (.iconst 1, 1) := by decide +kernel
theorem dL_law_496 : decode cL_law 496 = .ok (.iadd, 1) := by decide +kernel
theorem dL_law_497 : decode cL_law 497 = .ok (.iaload, 1) := by decide +kernel
theorem dL_law_498 : decode cL_law 498 = .ok (.invokevirtual 41, 3) := by decide +kernel
theorem dL_law_501 : decode cL_law 501 = .ok (.if_icmp .eq 1313, 3) := by decide +kernel
theorem dL_law_504 : decode cL_law 504 = .ok (.iconst 0, 1) := by decide +kernel
theorem dL_law_505 : decode cL_law 505 = .ok (.ireturn, 1) := by decide +kernel
theorem dL_law_506 : decode cL_law 506 = .ok (.aload_n 1, 1) := by decide +kernel
theorem dL_law_507 : decode cL_law 507 = .ok (.aload_n 0, 1) := by decide +kernel
theorem dL_law_508 : decode cL_law 508 = .ok (.iload_n 3, 1) := by decide +kernel
theorem dL_law_509 : decode cL_law 509 = .ok (.iconst 1, 1) := by decide +kernel
theorem dL_law_510 : decode cL_law 510 = .ok (.iadd, 1) := by decide +kernel
theorem dL_law_511 : decode cL_law 511 = .ok (.iaload, 1) := by decide +kernel
theorem dL_law_512 : decode cL_law 512 = .ok (.invokevirtual 42, 3) := by decide +kernel
theorem dL_law_515 : decode cL_law 515 = .ok (.aload_n 2, 1) := by decide +kernel
theorem dL_law_516 : decode cL_law 516 = .ok (.aload_n 0, 1) := by decide +kernel
theorem dL_law_517 : decode cL_law 517 = .ok (.iload_n 3, 1) := by decide +kernel
theorem dL_law_518 : decode cL_law 518 = .ok (.iconst 1, 1) := by decide +kernel
theorem dL_law_519 : decode cL_law 519 = .ok (.iadd, 1) := by decide +kernel
theorem dL_law_520 : decode cL_law 520 = .ok (.iaload, 1) := by decide +kernel
theorem dL_law_521 : decode cL_law 521 = .ok (.invokevirtual 46, 3) := by decide +kernel
theorem dL_law_524 : decode cL_law 524 = .ok (.if_icmp .eq 1290, 3) := by decide +kernel
theorem dL_law_527 : decode cL_law 527 = .ok (.iconst 0, 1) := by decide +kernel
theorem dL_law_528 : decode cL_law 528 = .ok (.ireturn, 1) := by decide +kernel
theorem dL_law_529 : decode cL_law 529 = .ok (.aload_n 1, 1) := by decide +kernel
theorem dL_law_530 : decode cL_law 530 = .ok (.aload_n 0, 1) := by decide +kernel
theorem dL_law_531 : decode cL_law 531 = .ok (.iload_n 3, 1) := by decide +kernel
theorem dL_law_532 : decode cL_law 532 = .ok (.iconst 1, 1) := by decide +kernel
theorem dL_law_533 : decode cL_law 533 = .ok (.iadd, 1) := by decide +kernel
theorem dL_law_534 : decode cL_law 534 = .ok (.iaload, 1) := by decide +kernel
theorem dL_law_535 : decode cL_law 535 = .ok (.invokevirtual 47, 3) := by decide +kernel
theorem dL_law_538 : decode cL_law 538 = .ok (.aload_n 2, 1) := by decide +kernel
theorem dL_law_539 : decode cL_law 539 = .ok (.aload_n 0, 1) := by decide +kernel
theorem dL_law_540 : decode cL_law 540 = .ok (.iload_n 3, 1) := by decide +kernel
theorem dL_law_541 : decode cL_law 541 = .ok (.iconst 1, 1) := by decide +kernel
theorem dL_law_542 : decode cL_law 542 = .ok (.iadd, 1) := by decide +kernel
theorem dL_law_543 : decode cL_law 543 = .ok (.iaload, 1) := by decide +kernel
theorem dL_law_544 : decode cL_law 544 = .ok (.invokevirtual 50, 3) := by decide +kernel
theorem dL_law_547 : decode cL_law 547 = .ok (.if_icmp .eq 1267, 3) := by decide +kernel
theorem dL_law_550 : decode cL_law 550 = .ok (.iconst 0, 1) := by decide +kernel
theorem dL_law_551 : decode cL_law 551 = .ok (.ireturn, 1) := by decide +kernel
theorem dL_law_552 : decode cL_law 552 = .ok (.aload_n 1, 1) := by decide +kernel
theorem dL_law_553 : decode cL_law 553 = .ok (.aload_n 0, 1) := by decide +kernel
theorem dL_law_554 : decode cL_law 554 = .ok (.iload_n 3, 1) := by decide +kernel
theorem dL_law_555 : decode cL_law 555 = .ok (.iconst 1, 1) := by decide +kernel
theorem dL_law_556 : decode cL_law 556 = .ok (.iadd, 1) := by decide +kernel
theorem dL_law_557 : decode cL_law 557 = .ok (.iaload, 1) := by decide +kernel
theorem dL_law_558 : decode cL_law 558 = .ok (.aload_n 0, 1) := by decide +kernel
theorem dL_law_559 : decode cL_law 559 = .ok (.iload_n 3, 1) := by decide +kernel
theorem dL_law_560 : decode cL_law 560 = .ok (.iconst 2, 1) := by decide +kernel
theorem dL_law_561 : decode cL_law 561 = .ok (.iadd, 1) := by decide +kernel
theorem dL_law_562 : decode cL_law 562 = .ok (.iaload, 1) := by decide +kernel
theorem dL_law_563 : decode cL_law 563 = .ok (.invokevirtual 51, 3) := by decide +kernel
theorem dL_law_566 : decode cL_law 566 = .ok (.aload_n 2, 1) := by decide +kernel
theorem dL_law_567 : decode cL_law 567 = .ok (.aload_n 0, 1) := by decide +kernel
theorem dL_law_568 : decode cL_law 568 = .ok (.iload_n 3, 1) := by decide +kernel
theorem dL_law_569 : decode cL_law 569 = .ok (.iconst 1, 1) := by decide +kernel
theorem dL_law_570 : decode cL_law 570 = .ok (.iadd, 1) := by decide +kernel
theorem dL_law_571 : decode cL_law 571 = .ok (.iaload, 1) := by decide +kernel
theorem dL_law_572 : decode cL_law 572 = .ok (.aload_n 0, 1) := by decide +kernel
theorem dL_law_573 : decode cL_law 573 = .ok (.iload_n 3, 1) := by decide +kernel
theorem dL_law_574 : decode cL_law 574 = .ok (.iconst 2, 1) := by decide +kernel
theorem dL_law_575 : decode cL_law 575 = .ok (.iadd, 1) := by decide +kernel
theorem dL_law_576 : decode cL_law 576 = .ok (.iaload, 1) := by decide +kernel
theorem dL_law_577 : decode cL_law 577 = .ok (.invokevirtual 55, 3) := by decide +kernel
theorem dL_law_580 : decode cL_law 580 = .ok (.if_icmp .eq 1234, 3) := by decide +kernel
theorem dL_law_583 : decode cL_law 583 = .ok (.iconst 0, 1) := by decide +kernel
theorem dL_law_584 : decode cL_law 584 = .ok (.ireturn, 1) := by decide +kernel
theorem dL_law_585 : decode cL_law 585 = .ok (.aload_n 1, 1) := by decide +kernel
theorem dL_law_586 : decode cL_law 586 = .ok (.aload_n 0, 1) := by decide +kernel
theorem dL_law_587 : decode cL_law 587 = .ok (.iload_n 3, 1) := by decide +kernel
theorem dL_law_588 : decode cL_law 588 = .ok (.iconst 1, 1) := by decide +kernel
theorem dL_law_589 : decode cL_law 589 = .ok (.iadd, 1) := by decide +kernel
theorem dL_law_590 : decode cL_law 590 = .ok (.iaload, 1) := by decide +kernel
theorem dL_law_591 : decode cL_law 591 = .ok (.invokevirtual 56, 3) := by decide +kernel
theorem dL_law_594 : decode cL_law 594 = .ok (.aload_n 2, 1) := by decide +kernel
theorem dL_law_595 : decode cL_law 595 = .ok (.aload_n 0, 1) := by decide +kernel
theorem dL_law_596 : decode cL_law 596 = .ok (.iload_n 3, 1) := by decide +kernel
theorem dL_law_597 : decode cL_law 597 = .ok (.iconst 1, 1) := by decide +kernel
theorem dL_law_598 : decode cL_law 598 = .ok (.iadd, 1) := by decide +kernel
theorem dL_law_599 : decode cL_law 599 = .ok (.iaload, 1) := by decide +kernel
theorem dL_law_600 : decode cL_law 600 = .ok (.invokevirtual 59, 3) := by decide +kernel
theorem dL_law_603 : decode cL_law 603 = .ok (.if_icmp .eq 1211, 3) := by decide +kernel
theorem dL_law_606 : decode cL_law 606 = .ok (.iconst 0, 1) := by decide +kernel
theorem dL_law_607 : decode cL_law 607 = .ok (.ireturn, 1) := by decide +kernel
theorem dL_law_608 : decode cL_law 608 = .ok (.aload_n 1, 1) := by decide +kernel
theorem dL_law_609 : decode cL_law 609 = .ok (.aload_n 0, 1) := by decide +kernel
theorem dL_law_610 : decode cL_law 610 = .ok (.iload_n 3, 1) := by decide +kernel
theorem dL_law_611 : decode cL_law 611 = .ok (.iconst 1, 1) := by decide +kernel
theorem dL_law_612 : decode cL_law 612 = .ok (.iadd, 1) := by decide +kernel
theorem dL_law_613 : decode cL_law 613 = .ok (.iaload, 1) := by decide +kernel
theorem dL_law_614 : decode cL_law 614 = .ok (.invokevirtual 60, 3) := by decide +kernel
theorem dL_law_617 : decode cL_law 617 = .ok (.aload_n 2, 1) := by decide +kernel
theorem dL_law_618 : decode cL_law 618 = .ok (.aload_n 0, 1) := by decide +kernel
theorem dL_law_619 : decode cL_law 619 = .ok (.iload_n 3, 1) := by decide +kernel
theorem dL_law_620 : decode cL_law 620 = .ok (.iconst 1, 1) := by decide +kernel
theorem dL_law_621 : decode cL_law 621 = .ok (.iadd, 1) := by decide +kernel
theorem dL_law_622 : decode cL_law 622 = .ok (.iaload, 1) := by decide +kernel
theorem dL_law_623 : decode cL_law 623 = .ok (.invokevirtual 63, 3) := by decide +kernel
theorem dL_law_626 : decode cL_law 626 = .ok (.if_icmp .eq 1188, 3) := by decide +kernel
theorem dL_law_629 : decode cL_law 629 = .ok (.iconst 0, 1) := by decide +kernel
theorem dL_law_630 : decode cL_law 630 = .ok (.ireturn, 1) := by decide +kernel
theorem dL_law_631 : decode cL_law 631 = .ok (.aload_n 1, 1) := by decide +kernel
theorem dL_law_632 : decode cL_law 632 = .ok (.aload_n 0, 1) := by decide +kernel
theorem dL_law_633 : decode cL_law 633 = .ok (.iload_n 3, 1) := by decide +kernel
theorem dL_law_634 : decode cL_law 634 = .ok (.iconst 1, 1) := by decide +kernel
theorem dL_law_635 : decode cL_law 635 = .ok (.iadd, 1) := by decide +kernel
theorem dL_law_636 : decode cL_law 636 = .ok (.iaload, 1) := by decide +kernel
theorem dL_law_637 : decode cL_law 637 = .ok (.invokevirtual 64, 3) := by decide +kernel
theorem dL_law_640 : decode cL_law 640 = .ok (.aload_n 2, 1) := by decide +kernel
theorem dL_law_641 : decode cL_law 641 = .ok (.aload_n 0, 1) := by decide +kernel
theorem dL_law_642 : decode cL_law 642 = .ok (.iload_n 3, 1) := by decide +kernel
theorem dL_law_643 : decode cL_law 643 = .ok (.iconst 1, 1) := by decide +kernel
theorem dL_law_644 : decode cL_law 644 = .ok (.iadd, 1) := by decide +kernel
theorem dL_law_645 : decode cL_law 645 = .ok (.iaload, 1) := by decide +kernel
theorem dL_law_646 : decode cL_law 646 = .ok (.invokevirtual 67, 3) := by decide +kernel
theorem dL_law_649 : decode cL_law 649 = .ok (.if_icmp .eq 1165, 3) := by decide +kernel
theorem dL_law_652 : decode cL_law 652 = .ok (.iconst 0, 1) := by decide +kernel
theorem dL_law_653 : decode cL_law 653 = .ok (.ireturn, 1) := by decide +kernel
theorem dL_law_654 : decode cL_law 654 = .ok (.aload_n 1, 1) := by decide +kernel
theorem dL_law_655 : decode cL_law 655 = .ok (.aload_n 0, 1) := by decide +kernel
theorem dL_law_656 : decode cL_law 656 = .ok (.iload_n 3, 1) := by decide +kernel
theorem dL_law_657 : decode cL_law 657 = .ok (.iconst 1, 1) := by decide +kernel
theorem dL_law_658 : decode cL_law 658 = .ok (.iadd, 1) := by decide +kernel
theorem dL_law_659 : decode cL_law 659 = .ok (.iaload, 1) := by decide +kernel
theorem dL_law_660 : decode cL_law 660 = .ok (.invokevirtual 68, 3) := by decide +kernel
theorem dL_law_663 : decode cL_law 663 = .ok (.aload_n 2, 1) := by decide +kernel
theorem dL_law_664 : decode cL_law 664 = .ok (.aload_n 0, 1) := by decide +kernel
theorem dL_law_665 : decode cL_law 665 = .ok (.iload_n 3, 1) := by decide +kernel
theorem dL_law_666 : decode cL_law 666 = .ok (.iconst 1, 1) := by decide +kernel
theorem dL_law_667 : decode cL_law 667 = .ok (.iadd, 1) := by decide +kernel
theorem dL_law_668 : decode cL_law 668 = .ok (.iaload, 1) := by decide +kernel
theorem dL_law_669 : decode cL_law 669 = .ok (.invokevirtual 71, 3) := by decide +kernel
theorem dL_law_672 : decode cL_law 672 = .ok (.if_icmp .eq 1142, 3) := by decide +kernel
theorem dL_law_675 : decode cL_law 675 = .ok (.iconst 0, 1) := by decide +kernel
theorem dL_law_676 : decode cL_law 676 = .ok (.ireturn, 1) := by decide +kernel
theorem dL_law_677 : decode cL_law 677 = .ok (.aload_n 1, 1) := by decide +kernel
theorem dL_law_678 : decode cL_law 678 = .ok (.aload_n 0, 1) := by decide +kernel
theorem dL_law_679 : decode cL_law 679 = .ok (.iload_n 3, 1) := by decide +kernel
theorem dL_law_680 : decode cL_law 680 = .ok (.iconst 1, 1) := by decide +kernel
theorem dL_law_681 : decode cL_law 681 = .ok (.iadd, 1) := by decide +kernel
theorem dL_law_682 : decode cL_law 682 = .ok (.iaload, 1) := by decide +kernel
theorem dL_law_683 : decode cL_law 683 = .ok (.aload_n 0, 1) := by decide +kernel
theorem dL_law_684 : decode cL_law 684 = .ok (.iload_n 3, 1) := by decide +kernel
theorem dL_law_685 : decode cL_law 685 = .ok (.iconst 2, 1) := by decide +kernel
theorem dL_law_686 : decode cL_law 686 = .ok (.iadd, 1) := by decide +kernel
theorem dL_law_687 : decode cL_law 687 = .ok (.iaload, 1) := by decide +kernel
theorem dL_law_688 : decode cL_law 688 = .ok (.invokevirtual 72, 3) := by decide +kernel
theorem dL_law_691 : decode cL_law 691 = .ok (.aload_n 2, 1) := by decide +kernel
theorem dL_law_692 : decode cL_law 692 = .ok (.aload_n 0, 1) := by decide +kernel
theorem dL_law_693 : decode cL_law 693 = .ok (.iload_n 3, 1) := by decide +kernel
theorem dL_law_694 : decode cL_law 694 = .ok (.iconst 1, 1) := by decide +kernel
theorem dL_law_695 : decode cL_law 695 = .ok (.iadd, 1) := by decide +kernel
theorem dL_law_696 : decode cL_law 696 = .ok (.iaload, 1) := by decide +kernel
theorem dL_law_697 : decode cL_law 697 = .ok (.aload_n 0, 1) := by decide +kernel
theorem dL_law_698 : decode cL_law 698 = .ok (.iload_n 3, 1) := by decide +kernel
theorem dL_law_699 : decode cL_law 699 = .ok (.iconst 2, 1) := by decide +kernel
theorem dL_law_700 : decode cL_law 700 = .ok (.iadd, 1) := by decide +kernel
theorem dL_law_701 : decode cL_law 701 = .ok (.iaload, 1) := by decide +kernel
theorem dL_law_702 : decode cL_law 702 = .ok (.invokevirtual 76, 3) := by decide +kernel
theorem dL_law_705 : decode cL_law 705 = .ok (.if_icmp .eq 1109, 3) := by decide +kernel
theorem dL_law_708 : decode cL_law 708 = .ok (.iconst 0, 1) := by decide +kernel
theorem dL_law_709 : decode cL_law 709 = .ok (.ireturn, 1) := by decide +kernel
theorem dL_law_710 : decode cL_law 710 = .ok (.aload_n 1, 1) := by decide +kernel
theorem dL_law_711 : decode cL_law 711 = .ok (.invokevirtual 77, 3) := by decide +kernel
theorem dL_law_714 : decode cL_law 714 = .ok (.aload_n 2, 1) := by decide +kernel
theorem dL_law_715 : decode cL_law 715 = .ok (.invokevirtual 80, 3) := by decide +kernel
theorem dL_law_718 : decode cL_law 718 = .ok (.if_icmp .eq 1096, 3) := by decide +kernel
theorem dL_law_721 : decode cL_law 721 = .ok (.iconst 0, 1) := by decide +kernel
theorem dL_law_722 : decode cL_law 722 = .ok (.ireturn, 1) := by decide +kernel
theorem dL_law_723 : decode cL_law 723 = .ok (.aload_n 1, 1) := by decide +kernel
theorem dL_law_724 : decode cL_law 724 = .ok (.aload_n 0, 1) := by decide +kernel
theorem dL_law_725 : decode cL_law 725 = .ok (.iload_n 3, 1) := by decide +kernel
theorem dL_law_726 : decode cL_law 726 = .ok (.iconst 1, 1) := by decide +kernel
theorem dL_law_727 : decode cL_law 727 = .ok (.iadd, 1) := by decide +kernel
theorem dL_law_728 : decode cL_law 728 = .ok (.iaload, 1) := by decide +kernel
theorem dL_law_729 : decode cL_law 729 = .ok (.aload_n 0, 1) := by decide +kernel
theorem dL_law_730 : decode cL_law 730 = .ok (.iload_n 3, 1) := by decide +kernel
theorem dL_law_731 : decode cL_law 731 = .ok (.iconst 2, 1) := by decide +kernel
theorem dL_law_732 : decode cL_law 732 = .ok (.iadd, 1) := by decide +kernel
theorem dL_law_733 : decode cL_law 733 = .ok (.iaload, 1) := by decide +kernel
theorem dL_law_734 : decode cL_law 734 = .ok (.invokevirtual 81, 3) := by decide +kernel
theorem dL_law_737 : decode cL_law 737 = .ok (.aload_n 2, 1) := by decide +kernel
theorem dL_law_738 : decode cL_law 738 = .ok (.aload_n 0, 1) := by decide +kernel
theorem dL_law_739 : decode cL_law 739 = .ok (.iload_n 3, 1) := by decide +kernel
theorem dL_law_740 : decode cL_law 740 = .ok (.iconst 1, 1) := by decide +kernel
theorem dL_law_741 : decode cL_law 741 = .ok (.iadd, 1) := by decide +kernel
theorem dL_law_742 : decode cL_law 742 = .ok (.iaload, 1) := by decide +kernel
theorem dL_law_743 : decode cL_law 743 = .ok (.aload_n 0, 1) := by decide +kernel
theorem dL_law_744 : decode cL_law 744 = .ok (.iload_n 3, 1) := by decide +kernel
theorem dL_law_745 : decode cL_law 745 = .ok (.iconst 2, 1) := by decide +kernel
theorem dL_law_746 : decode cL_law 746 = .ok (.iadd, 1) := by decide +kernel
theorem dL_law_747 : decode cL_law 747 = .ok (.iaload, 1) := by decide +kernel
theorem dL_law_748 : decode cL_law 748 = .ok (.invokevirtual 84, 3) := by decide +kernel
theorem dL_law_751 : decode cL_law 751 = .ok (.if_icmp .eq 1063, 3) := by decide +kernel
theorem dL_law_754 : decode cL_law 754 = .ok (.iconst 0, 1) := by decide +kernel
theorem dL_law_755 : decode cL_law 755 = .ok (.ireturn, 1) := by decide +kernel
theorem dL_law_756 : decode cL_law 756 = .ok (.aload_n 1, 1) := by decide +kernel
theorem dL_law_757 : decode cL_law 757 = .ok (.aload_n 0, 1) := by decide +kernel
theorem dL_law_758 : decode cL_law 758 = .ok (.iload_n 3, 1) := by decide +kernel
theorem dL_law_759 : decode cL_law 759 = .ok (.iconst 1, 1) := by decide +kernel
theorem dL_law_760 : decode cL_law 760 = .ok (.iadd, 1) := by decide +kernel
theorem dL_law_761 : decode cL_law 761 = .ok (.iaload, 1) := by decide +kernel
theorem dL_law_762 : decode cL_law 762 = .ok (.invokevirtual 85, 3) := by decide +kernel
theorem dL_law_765 : decode cL_law 765 = .ok (.aload_n 2, 1) := by decide +kernel
theorem dL_law_766 : decode cL_law 766 = .ok (.aload_n 0, 1) := by decide +kernel
theorem dL_law_767 : decode cL_law 767 = .ok (.iload_n 3, 1) := by decide +kernel
theorem dL_law_768 : decode cL_law 768 = .ok (.iconst 1, 1) := by decide +kernel
theorem dL_law_769 : decode cL_law 769 = .ok (.iadd, 1) := by decide +kernel
theorem dL_law_770 : decode cL_law 770 = .ok (.iaload, 1) := by decide +kernel
theorem dL_law_771 : decode cL_law 771 = .ok (.invokevirtual 88, 3) := by decide +kernel
theorem dL_law_774 : decode cL_law 774 = .ok (.if_icmp .eq 1040, 3) := by decide +kernel
theorem dL_law_777 : decode cL_law 777 = .ok (.iconst 0, 1) := by decide +kernel
theorem dL_law_778 : decode cL_law 778 = .ok (.ireturn, 1) := by decide +kernel
theorem dL_law_779 : decode cL_law 779 = .ok (.aload_n 1, 1) := by decide +kernel
theorem dL_law_780 : decode cL_law 780 = .ok (.aload_n 0, 1) := by decide +kernel
theorem dL_law_781 : decode cL_law 781 = .ok (.iload_n 3, 1) := by decide +kernel
theorem dL_law_782 : decode cL_law 782 = .ok (.iconst 1, 1) := by decide +kernel
theorem dL_law_783 : decode cL_law 783 = .ok (.iadd, 1) := by decide +kernel
theorem dL_law_784 : decode cL_law 784 = .ok (.iaload, 1) := by decide +kernel
theorem dL_law_785 : decode cL_law 785 = .ok (.aload_n 0, 1) := by decide +kernel
theorem dL_law_786 : decode cL_law 786 = .ok (.iload_n 3, 1) := by decide +kernel
theorem dL_law_787 : decode cL_law 787 = .ok (.iconst 2, 1) := by decide +kernel
theorem dL_law_788 : decode cL_law 788 = .ok (.iadd, 1) := by decide +kernel
theorem dL_law_789 : decode cL_law 789 = .ok (.iaload, 1) := by decide +kernel
theorem dL_law_790 : decode cL_law 790 = .ok (.invokevirtual 89, 3) := by decide +kernel
theorem dL_law_793 : decode cL_law 793 = .ok (.aload_n 2, 1) := by decide +kernel
theorem dL_law_794 : decode cL_law 794 = .ok (.aload_n 0, 1) := by decide +kernel
theorem dL_law_795 : decode cL_law 795 = .ok (.iload_n 3, 1) := by decide +kernel
theorem dL_law_796 : decode cL_law 796 = .ok (.iconst 1, 1) := by decide +kernel
theorem dL_law_797 : decode cL_law 797 = .ok (.iadd, 1) := by decide +kernel
theorem dL_law_798 : decode cL_law 798 = .ok (.iaload, 1) := by decide +kernel
theorem dL_law_799 : decode cL_law 799 = .ok (.aload_n 0, 1) := by decide +kernel
theorem dL_law_800 : decode cL_law 800 = .ok (.iload_n 3, 1) := by decide +kernel
theorem dL_law_801 : decode cL_law 801 = .ok (.iconst 2, 1) := by decide +kernel
theorem dL_law_802 : decode cL_law 802 = .ok (.iadd, 1) := by decide +kernel
theorem dL_law_803 : decode cL_law 803 = .ok (.iaload, 1) := by decide +kernel
theorem dL_law_804 : decode cL_law 804 = .ok (.invokevirtual 92, 3) := by decide +kernel
theorem dL_law_807 : decode cL_law 807 = .ok (.if_icmp .eq 1007, 3) := by decide +kernel
theorem dL_law_810 : decode cL_law 810 = .ok (.iconst 0, 1) := by decide +kernel
theorem dL_law_811 : decode cL_law 811 = .ok (.ireturn, 1) := by decide +kernel
theorem dL_law_812 : decode cL_law 812 = .ok (.aload_n 1, 1) := by decide +kernel
theorem dL_law_813 : decode cL_law 813 = .ok (.aload_n 0, 1) := by decide +kernel
theorem dL_law_814 : decode cL_law 814 = .ok (.iload_n 3, 1) := by decide +kernel
theorem dL_law_815 : decode cL_law 815 = .ok (.iconst 1, 1) := by decide +kernel
theorem dL_law_816 : decode cL_law 816 = .ok (.iadd, 1) := by decide +kernel
theorem dL_law_817 : decode cL_law 817 = .ok (.iaload, 1) := by decide +kernel
theorem dL_law_818 : decode cL_law 818 = .ok (.aload_n 0, 1) := by decide +kernel
theorem dL_law_819 : decode cL_law 819 = .ok (.iload_n 3, 1) := by decide +kernel
theorem dL_law_820 : decode cL_law 820 = .ok (.iconst 2, 1) := by decide +kernel
theorem dL_law_821 : decode cL_law 821 = .ok (.iadd, 1) := by decide +kernel
theorem dL_law_822 : decode cL_law 822 = .ok (.iaload, 1) := by decide +kernel
theorem dL_law_823 : decode cL_law 823 = .ok (.invokevirtual 93, 3) := by decide +kernel
theorem dL_law_826 : decode cL_law 826 = .ok (.aload_n 2, 1) := by decide +kernel
theorem dL_law_827 : decode cL_law 827 = .ok (.aload_n 0, 1) := by decide +kernel
theorem dL_law_828 : decode cL_law 828 = .ok (.iload_n 3, 1) := by decide +kernel
theorem dL_law_829 : decode cL_law 829 = .ok (.iconst 1, 1) := by decide +kernel
theorem dL_law_830 : decode cL_law 830 = .ok (.iadd, 1) := by decide +kernel
theorem dL_law_831 : decode cL_law 831 = .ok (.iaload, 1) := by decide +kernel
theorem dL_law_832 : decode cL_law 832 = .ok (.aload_n 0, 1) := by decide +kernel
theorem dL_law_833 : decode cL_law 833 = .ok (.iload_n 3, 1) := by decide +kernel
theorem dL_law_834 : decode cL_law 834 = .ok (.iconst 2, 1) := by decide +kernel
theorem dL_law_835 : decode cL_law 835 = .ok (.iadd, 1) := by decide +kernel
theorem dL_law_836 : decode cL_law 836 = .ok (.iaload, 1) := by decide +kernel
theorem dL_law_837 : decode cL_law 837 = .ok (.invokevirtual 96, 3) := by decide +kernel
theorem dL_law_840 : decode cL_law 840 = .ok (.if_icmp .eq 974, 3) := by decide +kernel
theorem dL_law_843 : decode cL_law 843 = .ok (.iconst 0, 1) := by decide +kernel
theorem dL_law_844 : decode cL_law 844 = .ok (.ireturn, 1) := by decide +kernel
theorem dL_law_845 : decode cL_law 845 = .ok (.aload_n 1, 1) := by decide +kernel
theorem dL_law_846 : decode cL_law 846 = .ok (.aload_n 0, 1) := by decide +kernel
theorem dL_law_847 : decode cL_law 847 = .ok (.iload_n 3, 1) := by decide +kernel
theorem dL_law_848 : decode cL_law 848 = .ok (.iconst 1, 1) := by decide +kernel
theorem dL_law_849 : decode cL_law 849 = .ok (.iadd, 1) := by decide +kernel
theorem dL_law_850 : decode cL_law 850 = .ok (.iaload, 1) := by decide +kernel
theorem dL_law_851 : decode cL_law 851 = .ok (.invokevirtual 97, 3) := by decide +kernel
theorem dL_law_854 : decode cL_law 854 = .ok (.aload_n 2, 1) := by decide +kernel
theorem dL_law_855 : decode cL_law 855 = .ok (.aload_n 0, 1) := by decide +kernel
theorem dL_law_856 : decode cL_law 856 = .ok (.iload_n 3, 1) := by decide +kernel
theorem dL_law_857 : decode cL_law 857 = .ok (.iconst 1, 1) := by decide +kernel
theorem dL_law_858 : decode cL_law 858 = .ok (.iadd, 1) := by decide +kernel
theorem dL_law_859 : decode cL_law 859 = .ok (.iaload, 1) := by decide +kernel
theorem dL_law_860 : decode cL_law 860 = .ok (.invokevirtual 100, 3) := by decide +kernel
theorem dL_law_863 : decode cL_law 863 = .ok (.if_icmp .eq 951, 3) := by decide +kernel
theorem dL_law_866 : decode cL_law 866 = .ok (.iconst 0, 1) := by decide +kernel
theorem dL_law_867 : decode cL_law 867 = .ok (.ireturn, 1) := by decide +kernel
theorem dL_law_868 : decode cL_law 868 = .ok (.aload_n 1, 1) := by decide +kernel
theorem dL_law_869 : decode cL_law 869 = .ok (.aload_n 0, 1) := by decide +kernel
theorem dL_law_870 : decode cL_law 870 = .ok (.iload_n 3, 1) := by decide +kernel
theorem dL_law_871 : decode cL_law 871 = .ok (.iconst 1, 1) := by decide +kernel
theorem dL_law_872 : decode cL_law 872 = .ok (.iadd, 1) := by decide +kernel
theorem dL_law_873 : decode cL_law 873 = .ok (.iaload, 1) := by decide +kernel
theorem dL_law_874 : decode cL_law 874 = .ok (.invokevirtual 101, 3) := by decide +kernel
theorem dL_law_877 : decode cL_law 877 = .ok (.aload_n 2, 1) := by decide +kernel
theorem dL_law_878 : decode cL_law 878 = .ok (.aload_n 0, 1) := by decide +kernel
theorem dL_law_879 : decode cL_law 879 = .ok (.iload_n 3, 1) := by decide +kernel
theorem dL_law_880 : decode cL_law 880 = .ok (.iconst 1, 1) := by decide +kernel
theorem dL_law_881 : decode cL_law 881 = .ok (.iadd, 1) := by decide +kernel
theorem dL_law_882 : decode cL_law 882 = .ok (.iaload, 1) := by decide +kernel
theorem dL_law_883 : decode cL_law 883 = .ok (.invokevirtual 104, 3) := by decide +kernel
theorem dL_law_886 : decode cL_law 886 = .ok (.if_icmp .eq 928, 3) := by decide +kernel
theorem dL_law_889 : decode cL_law 889 = .ok (.iconst 0, 1) := by decide +kernel
theorem dL_law_890 : decode cL_law 890 = .ok (.ireturn, 1) := by decide +kernel
theorem dL_law_891 : decode cL_law 891 = .ok (.aload_n 1, 1) := by decide +kernel
theorem dL_law_892 : decode cL_law 892 = .ok (.aload_n 0, 1) := by decide +kernel
theorem dL_law_893 : decode cL_law 893 = .ok (.iload_n 3, 1) := by decide +kernel
theorem dL_law_894 : decode cL_law 894 = .ok (.iconst 1, 1) := by decide +kernel
theorem dL_law_895 : decode cL_law 895 = .ok (.iadd, 1) := by decide +kernel
theorem dL_law_896 : decode cL_law 896 = .ok (.iaload, 1) := by decide +kernel
theorem dL_law_897 : decode cL_law 897 = .ok (.invokevirtual 105, 3) := by decide +kernel
theorem dL_law_900 : decode cL_law 900 = .ok (.aload_n 2, 1) := by decide +kernel
theorem dL_law_901 : decode cL_law 901 = .ok (.aload_n 0, 1) := by decide +kernel
theorem dL_law_902 : decode cL_law 902 = .ok (.iload_n 3, 1) := by decide +kernel
theorem dL_law_903 : decode cL_law 903 = .ok (.iconst 1, 1) := by decide +kernel
theorem dL_law_904 : decode cL_law 904 = .ok (.iadd, 1) := by decide +kernel
theorem dL_law_905 : decode cL_law 905 = .ok (.iaload, 1) := by decide +kernel
theorem dL_law_906 : decode cL_law 906 = .ok (.invokevirtual 108, 3) := by decide +kernel
theorem dL_law_909 : decode cL_law 909 = .ok (.if_icmp .eq 905, 3) := by decide +kernel
theorem dL_law_912 : decode cL_law 912 = .ok (.iconst 0, 1) := by decide +kernel
theorem dL_law_913 : decode cL_law 913 = .ok (.ireturn, 1) := by decide +kernel
theorem dL_law_914 : decode cL_law 914 = .ok (.aload_n 1, 1) := by decide +kernel
theorem dL_law_915 : decode cL_law 915 = .ok (.aload_n 0, 1) := by decide +kernel
theorem dL_law_916 : decode cL_law 916 = .ok (.iload_n 3, 1) := by decide +kernel
theorem dL_law_917 : decode cL_law 917 = .ok (.iconst 1, 1) := by decide +kernel
theorem dL_law_918 : decode cL_law 918 = .ok (.iadd, 1) := by decide +kernel
theorem dL_law_919 : decode cL_law 919 = .ok (.iaload, 1) := by decide +kernel
theorem dL_law_920 : decode cL_law 920 = .ok (.ifCond .eq 7, 3) := by decide +kernel
theorem dL_law_923 : decode cL_law 923 = .ok (.iconst 1, 1) := by decide +kernel
theorem dL_law_924 : decode cL_law 924 = .ok (.goto 4, 3) := by decide +kernel
theorem dL_law_927 : decode cL_law 927 = .ok (.iconst 0, 1) := by decide +kernel
theorem dL_law_928 : decode cL_law 928 = .ok (.invokevirtual 109, 3) := by decide +kernel
theorem dL_law_931 : decode cL_law 931 = .ok (.aload_n 2, 1) := by decide +kernel
theorem dL_law_932 : decode cL_law 932 = .ok (.aload_n 0, 1) := by decide +kernel
theorem dL_law_933 : decode cL_law 933 = .ok (.iload_n 3, 1) := by decide +kernel
theorem dL_law_934 : decode cL_law 934 = .ok (.iconst 1, 1) := by decide +kernel
theorem dL_law_935 : decode cL_law 935 = .ok (.iadd, 1) := by decide +kernel
theorem dL_law_936 : decode cL_law 936 = .ok (.iaload, 1) := by decide +kernel
theorem dL_law_937 : decode cL_law 937 = .ok (.ifCond .eq 7, 3) := by decide +kernel
theorem dL_law_940 : decode cL_law 940 = .ok (.iconst 1, 1) := by decide +kernel
theorem dL_law_941 : decode cL_law 941 = .ok (.goto 4, 3) := by decide +kernel
theorem dL_law_944 : decode cL_law 944 = .ok (.iconst 0, 1) := by decide +kernel
theorem dL_law_945 : decode cL_law 945 = .ok (.invokevirtual 113, 3) := by decide +kernel
theorem dL_law_948 : decode cL_law 948 = .ok (.if_icmp .eq 866, 3) := by decide +kernel
theorem dL_law_951 : decode cL_law 951 = .ok (.iconst 0, 1) := by decide +kernel
theorem dL_law_952 : decode cL_law 952 = .ok (.ireturn, 1) := by decide +kernel
theorem dL_law_953 : decode cL_law 953 = .ok (.aload_n 1, 1) := by decide +kernel
theorem dL_law_954 : decode cL_law 954 = .ok (.aload_n 0, 1) := by decide +kernel
theorem dL_law_955 : decode cL_law 955 = .ok (.iload_n 3, 1) := by decide +kernel
theorem dL_law_956 : decode cL_law 956 = .ok (.iconst 1, 1) := by decide +kernel
theorem dL_law_957 : decode cL_law 957 = .ok (.iadd, 1) := by decide +kernel
theorem dL_law_958 : decode cL_law 958 = .ok (.iaload, 1) := by decide +kernel
theorem dL_law_959 : decode cL_law 959 = .ok (.invokevirtual 114, 3) := by decide +kernel
theorem dL_law_962 : decode cL_law 962 = .ok (.aload_n 2, 1) := by decide +kernel
theorem dL_law_963 : decode cL_law 963 = .ok (.aload_n 0, 1) := by decide +kernel
theorem dL_law_964 : decode cL_law 964 = .ok (.iload_n 3, 1) := by decide +kernel
theorem dL_law_965 : decode cL_law 965 = .ok (.iconst 1, 1) := by decide +kernel
theorem dL_law_966 : decode cL_law 966 = .ok (.iadd, 1) := by decide +kernel
theorem dL_law_967 : decode cL_law 967 = .ok (.iaload, 1) := by decide +kernel
theorem dL_law_968 : decode cL_law 968 = .ok (.invokevirtual 117, 3) := by decide +kernel
theorem dL_law_971 : decode cL_law 971 = .ok (.if_icmp .eq 843, 3) := by decide +kernel
theorem dL_law_974 : decode cL_law 974 = .ok (.iconst 0, 1) := by decide +kernel
theorem dL_law_975 : decode cL_law 975 = .ok (.ireturn, 1) := by decide +kernel
theorem dL_law_976 : decode cL_law 976 = .ok (.aload_n 1, 1) := by decide +kernel
theorem dL_law_977 : decode cL_law 977 = .ok (.aload_n 0, 1) := by decide +kernel
theorem dL_law_978 : decode cL_law 978 = .ok (.iload_n 3, 1) := by decide +kernel
theorem dL_law_979 : decode cL_law 979 = .ok (.iconst 1, 1) := by decide +kernel
theorem dL_law_980 : decode cL_law 980 = .ok (.iadd, 1) := by decide +kernel
theorem dL_law_981 : decode cL_law 981 = .ok (.iaload, 1) := by decide +kernel
theorem dL_law_982 : decode cL_law 982 = .ok (.invokevirtual 118, 3) := by decide +kernel
theorem dL_law_985 : decode cL_law 985 = .ok (.aload_n 2, 1) := by decide +kernel
theorem dL_law_986 : decode cL_law 986 = .ok (.aload_n 0, 1) := by decide +kernel
theorem dL_law_987 : decode cL_law 987 = .ok (.iload_n 3, 1) := by decide +kernel
theorem dL_law_988 : decode cL_law 988 = .ok (.iconst 1, 1) := by decide +kernel
theorem dL_law_989 : decode cL_law 989 = .ok (.iadd, 1) := by decide +kernel
theorem dL_law_990 : decode cL_law 990 = .ok (.iaload, 1) := by decide +kernel
theorem dL_law_991 : decode cL_law 991 = .ok (.invokevirtual 121, 3) := by decide +kernel
theorem dL_law_994 : decode cL_law 994 = .ok (.if_icmp .eq 820, 3) := by decide +kernel
theorem dL_law_997 : decode cL_law 997 = .ok (.iconst 0, 1) := by decide +kernel
theorem dL_law_998 : decode cL_law 998 = .ok (.ireturn, 1) := by decide +kernel
theorem dL_law_999 : decode cL_law 999 = .ok (.aload_n 1, 1) := by decide +kernel
theorem dL_law_1000 : decode cL_law 1000 = .ok (.invokevirtual 122, 3) := by decide +kernel
theorem dL_law_1003 : decode cL_law 1003 = .ok (.aload_n 2, 1) := by decide +kernel
theorem dL_law_1004 : decode cL_law 1004 = .ok (.invokevirtual 125, 3) := by decide +kernel
theorem dL_law_1007 : decode cL_law 1007 = .ok (.if_icmp .eq 807, 3) := by decide +kernel
theorem dL_law_1010 : decode cL_law 1010 = .ok (.iconst 0, 1) := by decide +kernel
theorem dL_law_1011 : decode cL_law 1011 = .ok (.ireturn, 1) := by decide +kernel
theorem dL_law_1012 : decode cL_law 1012 = .ok (.aload_n 1, 1) := by decide +kernel
theorem dL_law_1013 : decode cL_law 1013 = .ok (.aload_n 0, 1) := by decide +kernel
theorem dL_law_1014 : decode cL_law 1014 = .ok (.iload_n 3, 1) := by decide +kernel
theorem dL_law_1015 : decode cL_law 1015 = .ok (.iconst 1, 1) := by decide +kernel
theorem dL_law_1016 : decode cL_law 1016 = .ok (.iadd, 1) := by decide +kernel
theorem dL_law_1017 : decode cL_law 1017 = .ok (.iaload, 1) := by decide +kernel
theorem dL_law_1018 : decode cL_law 1018 = .ok (.invokevirtual 126, 3) := by decide +kernel
theorem dL_law_1021 : decode cL_law 1021 = .ok (.aload_n 2, 1) := by decide +kernel
theorem dL_law_1022 : decode cL_law 1022 = .ok (.aload_n 0, 1) := by decide +kernel
theorem dL_law_1023 : decode cL_law 1023 = .ok (.iload_n 3, 1) := by decide +kernel
theorem dL_law_1024 : decode cL_law 1024 = .ok (.iconst 1, 1) := by decide +kernel
theorem dL_law_1025 : decode cL_law 1025 = .ok (.iadd, 1) := by decide +kernel
theorem dL_law_1026 : decode cL_law 1026 = .ok (.iaload, 1) := by decide +kernel
theorem dL_law_1027 : decode cL_law 1027 = .ok (.invokevirtual 129, 3) := by decide +kernel
theorem dL_law_1030 : decode cL_law 1030 = .ok (.if_icmp .eq 784, 3) := by decide +kernel
theorem dL_law_1033 : decode cL_law 1033 = .ok (.iconst 0, 1) := by decide +kernel
theorem dL_law_1034 : decode cL_law 1034 = .ok (.ireturn, 1) := by decide +kernel
theorem dL_law_1035 : decode cL_law 1035 = .ok (.aload_n 1, 1) := by decide +kernel
theorem dL_law_1036 : decode cL_law 1036 = .ok (.invokevirtual 130, 3) := by decide +kernel
theorem dL_law_1039 : decode cL_law 1039 = .ok (.aload_n 2, 1) := by decide +kernel
theorem dL_law_1040 : decode cL_law 1040 = .ok (.invokevirtual 133, 3) := by decide +kernel
theorem dL_law_1043 : decode cL_law 1043 = .ok (.if_icmp .eq 771, 3) := by decide +kernel
theorem dL_law_1046 : decode cL_law 1046 = .ok (.iconst 0, 1) := by decide +kernel
theorem dL_law_1047 : decode cL_law 1047 = .ok (.ireturn, 1) := by decide +kernel
theorem dL_law_1048 : decode cL_law 1048 = .ok (.aload_n 1, 1) := by decide +kernel
theorem dL_law_1049 : decode cL_law 1049 = .ok (.aload_n 0, 1) := by decide +kernel
theorem dL_law_1050 : decode cL_law 1050 = .ok (.iload_n 3, 1) := by decide +kernel
theorem dL_law_1051 : decode cL_law 1051 = .ok (.iconst 1, 1) := by decide +kernel
theorem dL_law_1052 : decode cL_law 1052 = .ok (.iadd, 1) := by decide +kernel
theorem dL_law_1053 : decode cL_law 1053 = .ok (.iaload, 1) := by decide +kernel
theorem dL_law_1054 : decode cL_law 1054 = .ok (.aload_n 0, 1) := by decide +kernel
theorem dL_law_1055 : decode cL_law 1055 = .ok (.iload_n 3, 1) := by decide +kernel
theorem dL_law_1056 : decode cL_law 1056 = .ok (.iconst 2, 1) := by decide +kernel
theorem dL_law_1057 : decode cL_law 1057 = .ok (.iadd, 1) := by decide +kernel
theorem dL_law_1058 : decode cL_law 1058 = .ok (.iaload, 1) := by decide +kernel
theorem dL_law_1059 : decode cL_law 1059 = .ok (.invokevirtual 134, 3) := by decide +kernel
theorem dL_law_1062 : decode cL_law 1062 = .ok (.aload_n 2, 1) := by decide +kernel
theorem dL_law_1063 : decode cL_law 1063 = .ok (.aload_n 0, 1) := by decide +kernel
theorem dL_law_1064 : decode cL_law 1064 = .ok (.iload_n 3, 1) := by decide +kernel
theorem dL_law_1065 : decode cL_law 1065 = .ok (.iconst 1, 1) := by decide +kernel
theorem dL_law_1066 : decode cL_law 1066 = .ok (.iadd, 1) := by decide +kernel
theorem dL_law_1067 : decode cL_law 1067 = .ok (.iaload, 1) := by decide +kernel
theorem dL_law_1068 : decode cL_law 1068 = .ok (.aload_n 0, 1) := by decide +kernel
theorem dL_law_1069 : decode cL_law 1069 = .ok (.iload_n 3, 1) := by decide +kernel
theorem dL_law_1070 : decode cL_law 1070 = .ok (.iconst 2, 1) := by decide +kernel
theorem dL_law_1071 : decode cL_law 1071 = .ok (.iadd, 1) := by decide +kernel
theorem dL_law_1072 : decode cL_law 1072 = .ok (.iaload, 1) := by decide +kernel
theorem dL_law_1073 : decode cL_law 1073 = .ok (.invokevirtual 137, 3) := by decide +kernel
theorem dL_law_1076 : decode cL_law 1076 = .ok (.if_icmp .eq 738, 3) := by decide +kernel
theorem dL_law_1079 : decode cL_law 1079 = .ok (.iconst 0, 1) := by decide +kernel
theorem dL_law_1080 : decode cL_law 1080 = .ok (.ireturn, 1) := by decide +kernel
theorem dL_law_1081 : decode cL_law 1081 = .ok (.aload_n 1, 1) := by decide +kernel
theorem dL_law_1082 : decode cL_law 1082 = .ok (.aload_n 0, 1) := by decide +kernel
theorem dL_law_1083 : decode cL_law 1083 = .ok (.iload_n 3, 1) := by decide +kernel
theorem dL_law_1084 : decode cL_law 1084 = .ok (.iconst 1, 1) := by decide +kernel
theorem dL_law_1085 : decode cL_law 1085 = .ok (.iadd, 1) := by decide +kernel
theorem dL_law_1086 : decode cL_law 1086 = .ok (.iaload, 1) := by decide +kernel
theorem dL_law_1087 : decode cL_law 1087 = .ok (.aload_n 0, 1) := by decide +kernel
theorem dL_law_1088 : decode cL_law 1088 = .ok (.iload_n 3, 1) := by decide +kernel
theorem dL_law_1089 : decode cL_law 1089 = .ok (.iconst 2, 1) := by decide +kernel
theorem dL_law_1090 : decode cL_law 1090 = .ok (.iadd, 1) := by decide +kernel
theorem dL_law_1091 : decode cL_law 1091 = .ok (.iaload, 1) := by decide +kernel
theorem dL_law_1092 : decode cL_law 1092 = .ok (.invokevirtual 138, 3) := by decide +kernel
theorem dL_law_1095 : decode cL_law 1095 = .ok (.aload_n 2, 1) := by decide +kernel
theorem dL_law_1096 : decode cL_law 1096 = .ok (.aload_n 0, 1) := by decide +kernel
theorem dL_law_1097 : decode cL_law 1097 = .ok (.iload_n 3, 1) := by decide +kernel
theorem dL_law_1098 : decode cL_law 1098 = .ok (.iconst 1, 1) := by decide +kernel
theorem dL_law_1099 : decode cL_law 1099 = .ok (.iadd, 1) := by decide +kernel
theorem dL_law_1100 : decode cL_law 1100 = .ok (.iaload, 1) := by decide +kernel
theorem dL_law_1101 : decode cL_law 1101 = .ok (.aload_n 0, 1) := by decide +kernel
theorem dL_law_1102 : decode cL_law 1102 = .ok (.iload_n 3, 1) := by decide +kernel
theorem dL_law_1103 : decode cL_law 1103 = .ok (.iconst 2, 1) := by decide +kernel
theorem dL_law_1104 : decode cL_law 1104 = .ok (.iadd, 1) := by decide +kernel
theorem dL_law_1105 : decode cL_law 1105 = .ok (.iaload, 1) := by decide +kernel
theorem dL_law_1106 : decode cL_law 1106 = .ok (.invokevirtual 141, 3) := by decide +kernel
theorem dL_law_1109 : decode cL_law 1109 = .ok (.if_icmp .eq 705, 3) := by decide +kernel
theorem dL_law_1112 : decode cL_law 1112 = .ok (.iconst 0, 1) := by decide +kernel
theorem dL_law_1113 : decode cL_law 1113 = .ok (.ireturn, 1) := by decide +kernel
theorem dL_law_1114 : decode cL_law 1114 = .ok (.aload_n 1, 1) := by decide +kernel
theorem dL_law_1115 : decode cL_law 1115 = .ok (.aload_n 0, 1) := by decide +kernel
theorem dL_law_1116 : decode cL_law 1116 = .ok (.iload_n 3, 1) := by decide +kernel
theorem dL_law_1117 : decode cL_law 1117 = .ok (.iconst 1, 1) := by decide +kernel
theorem dL_law_1118 : decode cL_law 1118 = .ok (.iadd, 1) := by decide +kernel
theorem dL_law_1119 : decode cL_law 1119 = .ok (.iaload, 1) := by decide +kernel
theorem dL_law_1120 : decode cL_law 1120 = .ok (.aload_n 0, 1) := by decide +kernel
theorem dL_law_1121 : decode cL_law 1121 = .ok (.iload_n 3, 1) := by decide +kernel
theorem dL_law_1122 : decode cL_law 1122 = .ok (.iconst 2, 1) := by decide +kernel
theorem dL_law_1123 : decode cL_law 1123 = .ok (.iadd, 1) := by decide +kernel
theorem dL_law_1124 : decode cL_law 1124 = .ok (.iaload, 1) := by decide +kernel
theorem dL_law_1125 : decode cL_law 1125 = .ok (.invokevirtual 142, 3) := by decide +kernel
theorem dL_law_1128 : decode cL_law 1128 = .ok (.aload_n 2, 1) := by decide +kernel
theorem dL_law_1129 : decode cL_law 1129 = .ok (.aload_n 0, 1) := by decide +kernel
theorem dL_law_1130 : decode cL_law 1130 = .ok (.iload_n 3, 1) := by decide +kernel
theorem dL_law_1131 : decode cL_law 1131 = .ok (.iconst 1, 1) := by decide +kernel
theorem dL_law_1132 : decode cL_law 1132 = .ok (.iadd, 1) := by decide +kernel
theorem dL_law_1133 : decode cL_law 1133 = .ok (.iaload, 1) := by decide +kernel
theorem dL_law_1134 : decode cL_law 1134 = .ok (.aload_n 0, 1) := by decide +kernel
theorem dL_law_1135 : decode cL_law 1135 = .ok (.iload_n 3, 1) := by decide +kernel
theorem dL_law_1136 : decode cL_law 1136 = .ok (.iconst 2, 1) := by decide +kernel
theorem dL_law_1137 : decode cL_law 1137 = .ok (.iadd, 1) := by decide +kernel
theorem dL_law_1138 : decode cL_law 1138 = .ok (.iaload, 1) := by decide +kernel
theorem dL_law_1139 : decode cL_law 1139 = .ok (.invokevirtual 145, 3) := by decide +kernel
theorem dL_law_1142 : decode cL_law 1142 = .ok (.if_icmp .eq 672, 3) := by decide +kernel
theorem dL_law_1145 : decode cL_law 1145 = .ok (.iconst 0, 1) := by decide +kernel
theorem dL_law_1146 : decode cL_law 1146 = .ok (.ireturn, 1) := by decide +kernel
theorem dL_law_1147 : decode cL_law 1147 = .ok (.aload_n 1, 1) := by decide +kernel
theorem dL_law_1148 : decode cL_law 1148 = .ok (.invokevirtual 146, 3) := by decide +kernel
theorem dL_law_1151 : decode cL_law 1151 = .ok (.aload_n 2, 1) := by decide +kernel
theorem dL_law_1152 : decode cL_law 1152 = .ok (.invokevirtual 149, 3) := by decide +kernel
theorem dL_law_1155 : decode cL_law 1155 = .ok (.if_icmp .eq 659, 3) := by decide +kernel
theorem dL_law_1158 : decode cL_law 1158 = .ok (.iconst 0, 1) := by decide +kernel
theorem dL_law_1159 : decode cL_law 1159 = .ok (.ireturn, 1) := by decide +kernel
theorem dL_law_1160 : decode cL_law 1160 = .ok (.aload_n 1, 1) := by decide +kernel
theorem dL_law_1161 : decode cL_law 1161 = .ok (.aload_n 0, 1) := by decide +kernel
theorem dL_law_1162 : decode cL_law 1162 = .ok (.iload_n 3, 1) := by decide +kernel
theorem dL_law_1163 : decode cL_law 1163 = .ok (.iconst 1, 1) := by decide +kernel
theorem dL_law_1164 : decode cL_law 1164 = .ok (.iadd, 1) := by decide +kernel
theorem dL_law_1165 : decode cL_law 1165 = .ok (.iaload, 1) := by decide +kernel
theorem dL_law_1166 : decode cL_law 1166 = .ok (.ifCond .eq 7, 3) := by decide +kernel
theorem dL_law_1169 : decode cL_law 1169 = .ok (.iconst 1, 1) := by decide +kernel
theorem dL_law_1170 : decode cL_law 1170 = .ok (.goto 4, 3) := by decide +kernel
theorem dL_law_1173 : decode cL_law 1173 = .ok (.iconst 0, 1) := by decide +kernel
theorem dL_law_1174 : decode cL_law 1174 = .ok (.invokevirtual 150, 3) := by decide +kernel
theorem dL_law_1177 : decode cL_law 1177 = .ok (.aload_n 2, 1) := by decide +kernel
theorem dL_law_1178 : decode cL_law 1178 = .ok (.aload_n 0, 1) := by decide +kernel
theorem dL_law_1179 : decode cL_law 1179 = .ok (.iload_n 3, 1) := by decide +kernel
theorem dL_law_1180 : decode cL_law 1180 = .ok (.iconst 1, 1) := by decide +kernel
theorem dL_law_1181 : decode cL_law 1181 = .ok (.iadd, 1) := by decide +kernel
theorem dL_law_1182 : decode cL_law 1182 = .ok (.iaload, 1) := by decide +kernel
theorem dL_law_1183 : decode cL_law 1183 = .ok (.ifCond .eq 7, 3) := by decide +kernel
theorem dL_law_1186 : decode cL_law 1186 = .ok (.iconst 1, 1) := by decide +kernel
theorem dL_law_1187 : decode cL_law 1187 = .ok (.goto 4, 3) := by decide +kernel
theorem dL_law_1190 : decode cL_law 1190 = .ok (.iconst 0, 1) := by decide +kernel
theorem dL_law_1191 : decode cL_law 1191 = .ok (.invokevirtual 153, 3) := by decide +kernel
theorem dL_law_1194 : decode cL_law 1194 = .ok (.if_icmp .eq 620, 3) := by decide +kernel
theorem dL_law_1197 : decode cL_law 1197 = .ok (.iconst 0, 1) := by decide +kernel
theorem dL_law_1198 : decode cL_law 1198 = .ok (.ireturn, 1) := by decide +kernel
theorem dL_law_1199 : decode cL_law 1199 = .ok (.aload_n 1, 1) := by decide +kernel
theorem dL_law_1200 : decode cL_law 1200 = .ok (.aload_n 0, 1) := by decide +kernel
theorem dL_law_1201 : decode cL_law 1201 = .ok (.iload_n 3, 1) := by decide +kernel
theorem dL_law_1202 : decode cL_law 1202 = .ok (.iconst 1, 1) := by decide +kernel
theorem dL_law_1203 : decode cL_law 1203 = .ok (.iadd, 1) := by decide +kernel
theorem dL_law_1204 : decode cL_law 1204 = .ok (.iaload, 1) := by decide +kernel
theorem dL_law_1205 : decode cL_law 1205 = .ok (.aload_n 0, 1) := by decide +kernel
theorem dL_law_1206 : decode cL_law 1206 = .ok (.iload_n 3, 1) := by decide +kernel
theorem dL_law_1207 : decode cL_law 1207 = .ok (.iconst 2, 1) := by decide +kernel
theorem dL_law_1208 : decode cL_law 1208 = .ok (.iadd, 1) := by decide +kernel
theorem dL_law_1209 : decode cL_law 1209 = .ok (.iaload, 1) := by decide +kernel
theorem dL_law_1210 : decode cL_law 1210 = .ok (.ifCond .eq 7, 3) := by decide +kernel
theorem dL_law_1213 : decode cL_law 1213 = .ok (.iconst 1, 1) := by decide +kernel
theorem dL_law_1214 : decode cL_law 1214 = .ok (.goto 4, 3) := by decide +kernel
theorem dL_law_1217 : decode cL_law 1217 = .ok (.iconst 0, 1) := by decide +kernel
theorem dL_law_1218 : decode cL_law 1218 = .ok (.invokevirtual 154, 3) := by decide +kernel
theorem dL_law_1221 : decode cL_law 1221 = .ok (.aload_n 2, 1) := by decide +kernel
theorem dL_law_1222 : decode cL_law 1222 = .ok (.aload_n 0, 1) := by decide +kernel
theorem dL_law_1223 : decode cL_law 1223 = .ok (.iload_n 3, 1) := by decide +kernel
theorem dL_law_1224 : decode cL_law 1224 = .ok (.iconst 1, 1) := by decide +kernel
theorem dL_law_1225 : decode cL_law 1225 = .ok (.iadd, 1) := by decide +kernel
theorem dL_law_1226 : decode cL_law 1226 = .ok (.iaload, 1) := by decide +kernel
theorem dL_law_1227 : decode cL_law 1227 = .ok (.aload_n 0, 1) := by decide +kernel
theorem dL_law_1228 : decode cL_law 1228 = .ok (.iload_n 3, 1) := by decide +kernel
theorem dL_law_1229 : decode cL_law 1229 = .ok (.iconst 2, 1) := by decide +kernel
theorem dL_law_1230 : decode cL_law 1230 = .ok (.iadd, 1) := by decide +kernel
theorem dL_law_1231 : decode cL_law 1231 = .ok (.iaload, 1) := by decide +kernel
theorem dL_law_1232 : decode cL_law 1232 = .ok (.ifCond .eq 7, 3) := by decide +kernel
theorem dL_law_1235 : decode cL_law 1235 = .ok (.iconst 1, 1) := by decide +kernel
theorem dL_law_1236 : decode cL_law 1236 = .ok (.goto 4, 3) := by decide +kernel
theorem dL_law_1239 : decode cL_law 1239 = .ok (.iconst 0, 1) := by decide +kernel
theorem dL_law_1240 : decode cL_law 1240 = .ok (.invokevirtual 158, 3) := by decide +kernel
theorem dL_law_1243 : decode cL_law 1243 = .ok (.if_icmp .eq 571, 3) := by decide +kernel
theorem dL_law_1246 : decode cL_law 1246 = .ok (.iconst 0, 1) := by decide +kernel
theorem dL_law_1247 : decode cL_law 1247 = .ok (.ireturn, 1) := by decide +kernel
theorem dL_law_1248 : decode cL_law 1248 = .ok (.aload_n 1, 1) := by decide +kernel
theorem dL_law_1249 : decode cL_law 1249 = .ok (.aload_n 0, 1) := by decide +kernel
theorem dL_law_1250 : decode cL_law 1250 = .ok (.iload_n 3, 1) := by decide +kernel
theorem dL_law_1251 : decode cL_law 1251 = .ok (.iconst 1, 1) := by decide +kernel
theorem dL_law_1252 : decode cL_law 1252 = .ok (.iadd, 1) := by decide +kernel
theorem dL_law_1253 : decode cL_law 1253 = .ok (.iaload, 1) := by decide +kernel
theorem dL_law_1254 : decode cL_law 1254 = .ok (.invokevirtual 159, 3) := by decide +kernel
theorem dL_law_1257 : decode cL_law 1257 = .ok (.aload_n 2, 1) := by decide +kernel
theorem dL_law_1258 : decode cL_law 1258 = .ok (.aload_n 0, 1) := by decide +kernel
theorem dL_law_1259 : decode cL_law 1259 = .ok (.iload_n 3, 1) := by decide +kernel
theorem dL_law_1260 : decode cL_law 1260 = .ok (.iconst 1, 1) := by decide +kernel
theorem dL_law_1261 : decode cL_law 1261 = .ok (.iadd, 1) := by decide +kernel
theorem dL_law_1262 : decode cL_law 1262 = .ok (.iaload, 1) := by decide +kernel
theorem dL_law_1263 : decode cL_law 1263 = .ok (.invokevirtual 162, 3) := by decide +kernel
theorem dL_law_1266 : decode cL_law 1266 = .ok (.if_icmp .eq 548, 3) := by decide +kernel
theorem dL_law_1269 : decode cL_law 1269 = .ok (.iconst 0, 1) := by decide +kernel
theorem dL_law_1270 : decode cL_law 1270 = .ok (.ireturn, 1) := by decide +kernel
theorem dL_law_1271 : decode cL_law 1271 = .ok (.aload_n 1, 1) := by decide +kernel
theorem dL_law_1272 : decode cL_law 1272 = .ok (.aload_n 0, 1) := by decide +kernel
theorem dL_law_1273 : decode cL_law 1273 = .ok (.iload_n 3, 1) := by decide +kernel
theorem dL_law_1274 : decode cL_law 1274 = .ok (.iconst 1, 1) := by decide +kernel
theorem dL_law_1275 : decode cL_law 1275 = .ok (.iadd, 1) := by decide +kernel
theorem dL_law_1276 : decode cL_law 1276 = .ok (.iaload, 1) := by decide +kernel
theorem dL_law_1277 : decode cL_law 1277 = .ok (.invokevirtual 163, 3) := by decide +kernel
theorem dL_law_1280 : decode cL_law 1280 = .ok (.aload_n 2, 1) := by decide +kernel
theorem dL_law_1281 : decode cL_law 1281 = .ok (.aload_n 0, 1) := by decide +kernel
theorem dL_law_1282 : decode cL_law 1282 = .ok (.iload_n 3, 1) := by decide +kernel
theorem dL_law_1283 : decode cL_law 1283 = .ok (.iconst 1, 1) := by decide +kernel
theorem dL_law_1284 : decode cL_law 1284 = .ok (.iadd, 1) := by decide +kernel
theorem dL_law_1285 : decode cL_law 1285 = .ok (.iaload, 1) := by decide +kernel
theorem dL_law_1286 : decode cL_law 1286 = .ok (.invokevirtual 166, 3) := by decide +kernel
theorem dL_law_1289 : decode cL_law 1289 = .ok (.if_icmp .eq 525, 3) := by decide +kernel
theorem dL_law_1292 : decode cL_law 1292 = .ok (.iconst 0, 1) := by decide +kernel
theorem dL_law_1293 : decode cL_law 1293 = .ok (.ireturn, 1) := by decide +kernel
theorem dL_law_1294 : decode cL_law 1294 = .ok (.aload_n 1, 1) := by decide +kernel
theorem dL_law_1295 : decode cL_law 1295 = .ok (.invokevirtual 167, 3) := by decide +kernel
theorem dL_law_1298 : decode cL_law 1298 = .ok (.aload_n 2, 1) := by decide +kernel
theorem dL_law_1299 : decode cL_law 1299 = .ok (.invokevirtual 170, 3) := by decide +kernel
theorem dL_law_1302 : decode cL_law 1302 = .ok (.if_icmp .eq 512, 3) := by decide +kernel
theorem dL_law_1305 : decode cL_law 1305 = .ok (.iconst 0, 1) := by decide +kernel
theorem dL_law_1306 : decode cL_law 1306 = .ok (.ireturn, 1) := by decide +kernel
theorem dL_law_1307 : decode cL_law 1307 = .ok (.aload_n 1, 1) := by decide +kernel
theorem dL_law_1308 : decode cL_law 1308 = .ok (.aload_n 0, 1) := by decide +kernel
theorem dL_law_1309 : decode cL_law 1309 = .ok (.iload_n 3, 1) := by decide +kernel
theorem dL_law_1310 : decode cL_law 1310 = .ok (.iconst 1, 1) := by decide +kernel
theorem dL_law_1311 : decode cL_law 1311 = .ok (.iadd, 1) := by decide +kernel
theorem dL_law_1312 : decode cL_law 1312 = .ok (.iaload, 1) := by decide +kernel
theorem dL_law_1313 : decode cL_law 1313 = .ok (.invokevirtual 171, 3) := by decide +kernel
theorem dL_law_1316 : decode cL_law 1316 = .ok (.aload_n 2, 1) := by decide +kernel
theorem dL_law_1317 : decode cL_law 1317 = .ok (.aload_n 0, 1) := by decide +kernel
theorem dL_law_1318 : decode cL_law 1318 = .ok (.iload_n 3, 1) := by decide +kernel
theorem dL_law_1319 : decode cL_law 1319 = .ok (.iconst 1, 1) := by decide +kernel
theorem dL_law_1320 : decode cL_law 1320 = .ok (.iadd, 1) := by decide +kernel
theorem dL_law_1321 : decode cL_law 1321 = .ok (.iaload, 1) := by decide +kernel
theorem dL_law_1322 : decode cL_law 1322 = .ok (.invokevirtual 174, 3) := by decide +kernel
theorem dL_law_1325 : decode cL_law 1325 = .ok (.if_icmp .eq 489, 3) := by decide +kernel
theorem dL_law_1328 : decode cL_law 1328 = .ok (.iconst 0, 1) := by decide +kernel
theorem dL_law_1329 : decode cL_law 1329 = .ok (.ireturn, 1) := by decide +kernel
theorem dL_law_1330 : decode cL_law 1330 = .ok (.aload_n 1, 1) := by decide +kernel
theorem dL_law_1331 : decode cL_law 1331 = .ok (.aload_n 0, 1) := by decide +kernel
theorem dL_law_1332 : decode cL_law 1332 = .ok (.iload_n 3, 1) := by decide +kernel
theorem dL_law_1333 : decode cL_law 1333 = .ok (.iconst 1, 1) := by decide +kernel
theorem dL_law_1334 : decode cL_law 1334 = .ok (.iadd, 1) := by decide +kernel
theorem dL_law_1335 : decode cL_law 1335 = .ok (.iaload, 1) := by decide +kernel
theorem dL_law_1336 : decode cL_law 1336 = .ok (.aload_n 0, 1) := by decide +kernel
theorem dL_law_1337 : decode cL_law 1337 = .ok (.iload_n 3, 1) := by decide +kernel
theorem dL_law_1338 : decode cL_law 1338 = .ok (.iconst 2, 1) := by decide +kernel
theorem dL_law_1339 : decode cL_law 1339 = .ok (.iadd, 1) := by decide +kernel
theorem dL_law_1340 : decode cL_law 1340 = .ok (.iaload, 1) := by decide +kernel
theorem dL_law_1341 : decode cL_law 1341 = .ok (.ifCond .eq 7, 3) := by decide +kernel
theorem dL_law_1344 : decode cL_law 1344 = .ok (.iconst 1, 1) := by decide +kernel
theorem dL_law_1345 : decode cL_law 1345 = .ok (.goto 4, 3) := by decide +kernel
theorem dL_law_1348 : decode cL_law 1348 = .ok (.iconst 0, 1) := by decide +kernel
theorem dL_law_1349 : decode cL_law 1349 = .ok (.invokevirtual 175, 3) := by decide +kernel
theorem dL_law_1352 : decode cL_law 1352 = .ok (.aload_n 2, 1) := by decide +kernel
theorem dL_law_1353 : decode cL_law 1353 = .ok (.aload_n 0, 1) := by decide +kernel
theorem dL_law_1354 : decode cL_law 1354 = .ok (.iload_n 3, 1) := by decide +kernel
theorem dL_law_1355 : decode cL_law 1355 = .ok (.iconst 1, 1) := by decide +kernel
theorem dL_law_1356 : decode cL_law 1356 = .ok (.iadd, 1) := by decide +kernel
theorem dL_law_1357 : decode cL_law 1357 = .ok (.iaload, 1) := by decide +kernel
theorem dL_law_1358 : decode cL_law 1358 = .ok (.aload_n 0, 1) := by decide +kernel
theorem dL_law_1359 : decode cL_law 1359 = .ok (.iload_n 3, 1) := by decide +kernel
theorem dL_law_1360 : decode cL_law 1360 = .ok (.iconst 2, 1) := by decide +kernel
theorem dL_law_1361 : decode cL_law 1361 = .ok (.iadd, 1) := by decide +kernel
theorem dL_law_1362 : decode cL_law 1362 = .ok (.iaload, 1) := by decide +kernel
theorem dL_law_1363 : decode cL_law 1363 = .ok (.ifCond .eq 7, 3) := by decide +kernel
theorem dL_law_1366 : decode cL_law 1366 = .ok (.iconst 1, 1) := by decide +kernel
theorem dL_law_1367 : decode cL_law 1367 = .ok (.goto 4, 3) := by decide +kernel
theorem dL_law_1370 : decode cL_law 1370 = .ok (.iconst 0, 1) := by decide +kernel
theorem dL_law_1371 : decode cL_law 1371 = .ok (.invokevirtual 178, 3) := by decide +kernel
theorem dL_law_1374 : decode cL_law 1374 = .ok (.if_icmp .eq 440, 3) := by decide +kernel
theorem dL_law_1377 : decode cL_law 1377 = .ok (.iconst 0, 1) := by decide +kernel
theorem dL_law_1378 : decode cL_law 1378 = .ok (.ireturn, 1) := by decide +kernel
theorem dL_law_1379 : decode cL_law 1379 = .ok (.aload_n 1, 1) := by decide +kernel
theorem dL_law_1380 : decode cL_law 1380 = .ok (.aload_n 0, 1) := by decide +kernel
theorem dL_law_1381 : decode cL_law 1381 = .ok (.iload_n 3, 1) := by decide +kernel
theorem dL_law_1382 : decode cL_law 1382 = .ok (.iconst 1, 1) := by decide +kernel
theorem dL_law_1383 : decode cL_law 1383 = .ok (.iadd, 1) := by decide +kernel
theorem dL_law_1384 : decode cL_law 1384 = .ok (.iaload, 1) := by decide +kernel
theorem dL_law_1385 : decode cL_law 1385 = .ok (.aload_n 0, 1) := by decide +kernel
theorem dL_law_1386 : decode cL_law 1386 = .ok (.iload_n 3, 1) := by decide +kernel
theorem dL_law_1387 : decode cL_law 1387 = .ok (.iconst 2, 1) := by decide +kernel
theorem dL_law_1388 : decode cL_law 1388 = .ok (.iadd, 1) := by decide +kernel
theorem dL_law_1389 : decode cL_law 1389 = .ok (.iaload, 1) := by decide +kernel
theorem dL_law_1390 : decode cL_law 1390 = .ok (.ifCond .eq 7, 3) := by decide +kernel
theorem dL_law_1393 : decode cL_law 1393 = .ok (.iconst 1, 1) := by decide +kernel
theorem dL_law_1394 : decode cL_law 1394 = .ok (.goto 4, 3) := by decide +kernel
theorem dL_law_1397 : decode cL_law 1397 = .ok (.iconst 0, 1) := by decide +kernel
theorem dL_law_1398 : decode cL_law 1398 = .ok (.invokevirtual 179, 3) := by decide +kernel
theorem dL_law_1401 : decode cL_law 1401 = .ok (.aload_n 2, 1) := by decide +kernel
theorem dL_law_1402 : decode cL_law 1402 = .ok (.aload_n 0, 1) := by decide +kernel
theorem dL_law_1403 : decode cL_law 1403 = .ok (.iload_n 3, 1) := by decide +kernel
theorem dL_law_1404 : decode cL_law 1404 = .ok (.iconst 1, 1) := by decide +kernel
theorem dL_law_1405 : decode cL_law 1405 = .ok (.iadd, 1) := by decide +kernel
theorem dL_law_1406 : decode cL_law 1406 = .ok (.iaload, 1) := by decide +kernel
theorem dL_law_1407 : decode cL_law 1407 = .ok (.aload_n 0, 1) := by decide +kernel
theorem dL_law_1408 : decode cL_law 1408 = .ok (.iload_n 3, 1) := by decide +kernel
theorem dL_law_1409 : decode cL_law 1409 = .ok (.iconst 2, 1) := by decide +kernel
theorem dL_law_1410 : decode cL_law 1410 = .ok (.iadd, 1) := by decide +kernel
theorem dL_law_1411 : decode cL_law 1411 = .ok (.iaload, 1) := by decide +kernel
theorem dL_law_1412 : decode cL_law 1412 = .ok (.ifCond .eq 7, 3) := by decide +kernel
theorem dL_law_1415 : decode cL_law 1415 = .ok (.iconst 1, 1) := by decide +kernel
theorem dL_law_1416 : decode cL_law 1416 = .ok (.goto 4, 3) := by decide +kernel
theorem dL_law_1419 : decode cL_law 1419 = .ok (.iconst 0, 1) := by decide +kernel
theorem dL_law_1420 : decode cL_law 1420 = .ok (.invokevirtual 182, 3) := by decide +kernel
theorem dL_law_1423 : decode cL_law 1423 = .ok (.if_icmp .eq 391, 3) := by decide +kernel
theorem dL_law_1426 : decode cL_law 1426 = .ok (.iconst 0, 1) := by decide +kernel
theorem dL_law_1427 : decode cL_law 1427 = .ok (.ireturn, 1) := by decide +kernel
theorem dL_law_1428 : decode cL_law 1428 = .ok (.aload_n 1, 1) := by decide +kernel
theorem dL_law_1429 : decode cL_law 1429 = .ok (.aload_n 0, 1) := by decide +kernel
theorem dL_law_1430 : decode cL_law 1430 = .ok (.iload_n 3, 1) := by decide +kernel
theorem dL_law_1431 : decode cL_law 1431 = .ok (.iconst 1, 1) := by decide +kernel
theorem dL_law_1432 : decode cL_law 1432 = .ok (.iadd, 1) := by decide +kernel
theorem dL_law_1433 : decode cL_law 1433 = .ok (.iaload, 1) := by decide +kernel
theorem dL_law_1434 : decode cL_law 1434 = .ok (.aload_n 0, 1) := by decide +kernel
theorem dL_law_1435 : decode cL_law 1435 = .ok (.iload_n 3, 1) := by decide +kernel
theorem dL_law_1436 : decode cL_law 1436 = .ok (.iconst 2, 1) := by decide +kernel
theorem dL_law_1437 : decode cL_law 1437 = .ok (.iadd, 1) := by decide +kernel
theorem dL_law_1438 : decode cL_law 1438 = .ok (.iaload, 1) := by decide +kernel
theorem dL_law_1439 : decode cL_law 1439 = .ok (.ifCond .eq 7, 3) := by decide +kernel
theorem dL_law_1442 : decode cL_law 1442 = .ok (.iconst 1, 1) := by decide +kernel
theorem dL_law_1443 : decode cL_law 1443 = .ok (.goto 4, 3) := by decide +kernel
theorem dL_law_1446 : decode cL_law 1446 = .ok (.iconst 0, 1) := by decide +kernel
theorem dL_law_1447 : decode cL_law 1447 = .ok (.invokevirtual 183, 3) := by decide +kernel
theorem dL_law_1450 : decode cL_law 1450 = .ok (.aload_n 2, 1) := by decide +kernel
theorem dL_law_1451 : decode cL_law 1451 = .ok (.aload_n 0, 1) := by decide +kernel
theorem dL_law_1452 : decode cL_law 1452 = .ok (.iload_n 3, 1) := by decide +kernel
theorem dL_law_1453 : decode cL_law 1453 = .ok (.iconst 1, 1) := by decide +kernel
theorem dL_law_1454 : decode cL_law 1454 = .ok (.iadd, 1) := by decide +kernel
theorem dL_law_1455 : decode cL_law 1455 = .ok (.iaload, 1) := by decide +kernel
theorem dL_law_1456 : decode cL_law 1456 = .ok (.aload_n 0, 1) := by decide +kernel
theorem dL_law_1457 : decode cL_law 1457 = .ok (.iload_n 3, 1) := by decide +kernel
theorem dL_law_1458 : decode cL_law 1458 = .ok (.iconst 2, 1) := by decide +kernel
theorem dL_law_1459 : decode cL_law 1459 = .ok (.iadd, 1) := by decide +kernel
theorem dL_law_1460 : decode cL_law 1460 = .ok (.iaload, 1) := by decide +kernel
theorem dL_law_1461 : decode cL_law 1461 = .ok (.ifCond .eq 7, 3) := by decide +kernel
theorem dL_law_1464 : decode cL_law 1464 = .ok (.iconst 1, 1) := by decide +kernel
theorem dL_law_1465 : decode cL_law 1465 = .ok (.goto 4, 3) := by decide +kernel
theorem dL_law_1468 : decode cL_law 1468 = .ok (.iconst 0, 1) := by decide +kernel
theorem dL_law_1469 : decode cL_law 1469 = .ok (.invokevirtual 186, 3) := by decide +kernel
theorem dL_law_1472 : decode cL_law 1472 = .ok (.if_icmp .eq 342, 3) := by decide +kernel
theorem dL_law_1475 : decode cL_law 1475 = .ok (.iconst 0, 1) := by decide +kernel
theorem dL_law_1476 : decode cL_law 1476 = .ok (.ireturn, 1) := by decide +kernel
theorem dL_law_1477 : decode cL_law 1477 = .ok (.aload_n 1, 1) := by decide +kernel
theorem dL_law_1478 : decode cL_law 1478 = .ok (.aload_n 0, 1) := by decide +kernel
theorem dL_law_1479 : decode cL_law 1479 = .ok (.iload_n 3, 1) := by decide +kernel
theorem dL_law_1480 : decode cL_law 1480 = .ok (.iconst 1, 1) := by decide +kernel
theorem dL_law_1481 : decode cL_law 1481 = .ok (.iadd, 1) := by decide +kernel
theorem dL_law_1482 : decode cL_law 1482 = .ok (.iaload, 1) := by decide +kernel
theorem dL_law_1483 : decode cL_law 1483 = .ok (.ifCond .eq 7, 3) := by decide +kernel
theorem dL_law_1486 : decode cL_law 1486 = .ok (.iconst 1, 1) := by decide +kernel
theorem dL_law_1487 : decode cL_law 1487 = .ok (.goto 4, 3) := by decide +kernel
theorem dL_law_1490 : decode cL_law 1490 = .ok (.iconst 0, 1) := by decide +kernel
theorem dL_law_1491 : decode cL_law 1491 = .ok (.invokevirtual 187, 3) := by decide +kernel
theorem dL_law_1494 : decode cL_law 1494 = .ok (.aload_n 2, 1) := by decide +kernel
theorem dL_law_1495 : decode cL_law 1495 = .ok (.aload_n 0, 1) := by decide +kernel
theorem dL_law_1496 : decode cL_law 1496 = .ok (.iload_n 3, 1) := by decide +kernel
theorem dL_law_1497 : decode cL_law 1497 = .ok (.iconst 1, 1) := by decide +kernel
theorem dL_law_1498 : decode cL_law 1498 = .ok (.iadd, 1) := by decide +kernel
theorem dL_law_1499 : decode cL_law 1499 = .ok (.iaload, 1) := by decide +kernel
theorem dL_law_1500 : decode cL_law 1500 = .ok (.ifCond .eq 7, 3) := by decide +kernel
theorem dL_law_1503 : decode cL_law 1503 = .ok (.iconst 1, 1) := by decide +kernel
theorem dL_law_1504 : decode cL_law 1504 = .ok (.goto 4, 3) := by decide +kernel
theorem dL_law_1507 : decode cL_law 1507 = .ok (.iconst 0, 1) := by decide +kernel
theorem dL_law_1508 : decode cL_law 1508 = .ok (.invokevirtual 190, 3) := by decide +kernel
theorem dL_law_1511 : decode cL_law 1511 = .ok (.if_icmp .eq 303, 3) := by decide +kernel
theorem dL_law_1514 : decode cL_law 1514 = .ok (.iconst 0, 1) := by decide +kernel
theorem dL_law_1515 : decode cL_law 1515 = .ok (.ireturn, 1) := by decide +kernel
theorem dL_law_1516 : decode cL_law 1516 = .ok (.aload_n 1, 1) := by decide +kernel
theorem dL_law_1517 : decode cL_law 1517 = .ok (.aload_n 0, 1) := by decide +kernel
theorem dL_law_1518 : decode cL_law 1518 = .ok (.iload_n 3, 1) := by decide +kernel
theorem dL_law_1519 : decode cL_law 1519 = .ok (.iconst 1, 1) := by decide +kernel
theorem dL_law_1520 : decode cL_law 1520 = .ok (.iadd, 1) := by decide +kernel
theorem dL_law_1521 : decode cL_law 1521 = .ok (.iaload, 1) := by decide +kernel
theorem dL_law_1522 : decode cL_law 1522 = .ok (.invokevirtual 191, 3) := by decide +kernel
theorem dL_law_1525 : decode cL_law 1525 = .ok (.aload_n 2, 1) := by decide +kernel
theorem dL_law_1526 : decode cL_law 1526 = .ok (.aload_n 0, 1) := by decide +kernel
theorem dL_law_1527 : decode cL_law 1527 = .ok (.iload_n 3, 1) := by decide +kernel
theorem dL_law_1528 : decode cL_law 1528 = .ok (.iconst 1, 1) := by decide +kernel
theorem dL_law_1529 : decode cL_law 1529 = .ok (.iadd, 1) := by decide +kernel
theorem dL_law_1530 : decode cL_law 1530 = .ok (.iaload, 1) := by decide +kernel
theorem dL_law_1531 : decode cL_law 1531 = .ok (.invokevirtual 194, 3) := by decide +kernel
theorem dL_law_1534 : decode cL_law 1534 = .ok (.if_icmp .eq 280, 3) := by decide +kernel
theorem dL_law_1537 : decode cL_law 1537 = .ok (.iconst 0, 1) := by decide +kernel
theorem dL_law_1538 : decode cL_law 1538 = .ok (.ireturn, 1) := by decide +kernel
theorem dL_law_1539 : decode cL_law 1539 = .ok (.aload_n 1, 1) := by decide +kernel
theorem dL_law_1540 : decode cL_law 1540 = .ok (.aload_n 0, 1) := by decide +kernel
theorem dL_law_1541 : decode cL_law 1541 = .ok (.iload_n 3, 1) := by decide +kernel
theorem dL_law_1542 : decode cL_law 1542 = .ok (.iconst 1, 1) := by decide +kernel
theorem dL_law_1543 : decode cL_law 1543 = .ok (.iadd, 1) := by decide +kernel
theorem dL_law_1544 : decode cL_law 1544 = .ok (.iaload, 1) := by decide +kernel
theorem dL_law_1545 : decode cL_law 1545 = .ok (.ifCond .eq 7, 3) := by decide +kernel
theorem dL_law_1548 : decode cL_law 1548 = .ok (.iconst 1, 1) := by decide +kernel
theorem dL_law_1549 : decode cL_law 1549 = .ok (.goto 4, 3) := by decide +kernel
theorem dL_law_1552 : decode cL_law 1552 = .ok (.iconst 0, 1) := by decide +kernel
theorem dL_law_1553 : decode cL_law 1553 = .ok (.invokevirtual 195, 3) := by decide +kernel
theorem dL_law_1556 : decode cL_law 1556 = .ok (.aload_n 2, 1) := by decide +kernel
theorem dL_law_1557 : decode cL_law 1557 = .ok (.aload_n 0, 1) := by decide +kernel
theorem dL_law_1558 : decode cL_law 1558 = .ok (.iload_n 3, 1) := by decide +kernel
theorem dL_law_1559 : decode cL_law 1559 = .ok (.iconst 1, 1) := by decide +kernel
theorem dL_law_1560 : decode cL_law 1560 = .ok (.iadd, 1) := by decide +kernel
theorem dL_law_1561 : decode cL_law 1561 = .ok (.iaload, 1) := by decide +kernel
theorem dL_law_1562 : decode cL_law 1562 = .ok (.ifCond .eq 7, 3) := by decide +kernel
theorem dL_law_1565 : decode cL_law 1565 = .ok (.iconst 1, 1) := by decide +kernel
theorem dL_law_1566 : decode cL_law 1566 = .ok (.goto 4, 3) := by decide +kernel
theorem dL_law_1569 : decode cL_law 1569 = .ok (.iconst 0, 1) := by decide +kernel
theorem dL_law_1570 : decode cL_law 1570 = .ok (.invokevirtual 198, 3) := by decide +kernel
theorem dL_law_1573 : decode cL_law 1573 = .ok (.if_icmp .eq 241, 3) := by decide +kernel
theorem dL_law_1576 : decode cL_law 1576 = .ok (.iconst 0, 1) := by decide +kernel
theorem dL_law_1577 : decode cL_law 1577 = .ok (.ireturn, 1) := by decide +kernel
theorem dL_law_1578 : decode cL_law 1578 = .ok (.aload_n 1, 1) := by decide +kernel
theorem dL_law_1579 : decode cL_law 1579 = .ok (.aload_n 0, 1) := by decide +kernel
theorem dL_law_1580 : decode cL_law 1580 = .ok (.iload_n 3, 1) := by decide +kernel
theorem dL_law_1581 : decode cL_law 1581 = .ok (.iconst 1, 1) := by decide +kernel
theorem dL_law_1582 : decode cL_law 1582 = .ok (.iadd, 1) := by decide +kernel
theorem dL_law_1583 : decode cL_law 1583 = .ok (.iaload, 1) := by decide +kernel
theorem dL_law_1584 : decode cL_law 1584 = .ok (.invokevirtual 199, 3) := by decide +kernel
theorem dL_law_1587 : decode cL_law 1587 = .ok (.aload_n 2, 1) := by decide +kernel
theorem dL_law_1588 : decode cL_law 1588 = .ok (.aload_n 0, 1) := by decide +kernel
theorem dL_law_1589 : decode cL_law 1589 = .ok (.iload_n 3, 1) := by decide +kernel
theorem dL_law_1590 : decode cL_law 1590 = .ok (.iconst 1, 1) := by decide +kernel
theorem dL_law_1591 : decode cL_law 1591 = .ok (.iadd, 1) := by decide +kernel
theorem dL_law_1592 : decode cL_law 1592 = .ok (.iaload, 1) := by decide +kernel
theorem dL_law_1593 : decode cL_law 1593 = .ok (.invokevirtual 202, 3) := by decide +kernel
theorem dL_law_1596 : decode cL_law 1596 = .ok (.if_icmp .eq 218, 3) := by decide +kernel
theorem dL_law_1599 : decode cL_law 1599 = .ok (.iconst 0, 1) := by decide +kernel
theorem dL_law_1600 : decode cL_law 1600 = .ok (.ireturn, 1) := by decide +kernel
theorem dL_law_1601 : decode cL_law 1601 = .ok (.aload_n 1, 1) := by decide +kernel
theorem dL_law_1602 : decode cL_law 1602 = .ok (.aload_n 0, 1) := by decide +kernel
theorem dL_law_1603 : decode cL_law 1603 = .ok (.iload_n 3, 1) := by decide +kernel
theorem dL_law_1604 : decode cL_law 1604 = .ok (.iconst 1, 1) := by decide +kernel
theorem dL_law_1605 : decode cL_law 1605 = .ok (.iadd, 1) := by decide +kernel
theorem dL_law_1606 : decode cL_law 1606 = .ok (.iaload, 1) := by decide +kernel
theorem dL_law_1607 : decode cL_law 1607 = .ok (.invokevirtual 203, 3) := by decide +kernel
theorem dL_law_1610 : decode cL_law 1610 = .ok (.aload_n 2, 1) := by decide +kernel
theorem dL_law_1611 : decode cL_law 1611 = .ok (.aload_n 0, 1) := by decide +kernel
theorem dL_law_1612 : decode cL_law 1612 = .ok (.iload_n 3, 1) := by decide +kernel
theorem dL_law_1613 : decode cL_law 1613 = .ok (.iconst 1, 1) := by decide +kernel
theorem dL_law_1614 : decode cL_law 1614 = .ok (.iadd, 1) := by decide +kernel
theorem dL_law_1615 : decode cL_law 1615 = .ok (.iaload, 1) := by decide +kernel
theorem dL_law_1616 : decode cL_law 1616 = .ok (.invokevirtual 206, 3) := by decide +kernel
theorem dL_law_1619 : decode cL_law 1619 = .ok (.if_icmp .eq 195, 3) := by decide +kernel
theorem dL_law_1622 : decode cL_law 1622 = .ok (.iconst 0, 1) := by decide +kernel
theorem dL_law_1623 : decode cL_law 1623 = .ok (.ireturn, 1) := by decide +kernel
theorem dL_law_1624 : decode cL_law 1624 = .ok (.aload_n 1, 1) := by decide +kernel
theorem dL_law_1625 : decode cL_law 1625 = .ok (.aload_n 0, 1) := by decide +kernel
theorem dL_law_1626 : decode cL_law 1626 = .ok (.iload_n 3, 1) := by decide +kernel
theorem dL_law_1627 : decode cL_law 1627 = .ok (.iconst 1, 1) := by decide +kernel
theorem dL_law_1628 : decode cL_law 1628 = .ok (.iadd, 1) := by decide +kernel
theorem dL_law_1629 : decode cL_law 1629 = .ok (.iaload, 1) := by decide +kernel
theorem dL_law_1630 : decode cL_law 1630 = .ok (.aload_n 0, 1) := by decide +kernel
theorem dL_law_1631 : decode cL_law 1631 = .ok (.iload_n 3, 1) := by decide +kernel
theorem dL_law_1632 : decode cL_law 1632 = .ok (.iconst 2, 1) := by decide +kernel
theorem dL_law_1633 : decode cL_law 1633 = .ok (.iadd, 1) := by decide +kernel
theorem dL_law_1634 : decode cL_law 1634 = .ok (.iaload, 1) := by decide +kernel
theorem dL_law_1635 : decode cL_law 1635 = .ok (.invokevirtual 207, 3) := by decide +kernel
theorem dL_law_1638 : decode cL_law 1638 = .ok (.aload_n 2, 1) := by decide +kernel
theorem dL_law_1639 : decode cL_law 1639 = .ok (.aload_n 0, 1) := by decide +kernel
theorem dL_law_1640 : decode cL_law 1640 = .ok (.iload_n 3, 1) := by decide +kernel
theorem dL_law_1641 : decode cL_law 1641 = .ok (.iconst 1, 1) := by decide +kernel
theorem dL_law_1642 : decode cL_law 1642 = .ok (.iadd, 1) := by decide +kernel
theorem dL_law_1643 : decode cL_law 1643 = .ok (.iaload, 1) := by decide +kernel
theorem dL_law_1644 : decode cL_law 1644 = .ok (.aload_n 0, 1) := by decide +kernel
theorem dL_law_1645 : decode cL_law 1645 = .ok (.iload_n 3, 1) := by decide +kernel
theorem dL_law_1646 : decode cL_law 1646 = .ok (.iconst 2, 1) := by decide +kernel
theorem dL_law_1647 : decode cL_law 1647 = .ok (.iadd, 1) := by decide +kernel
theorem dL_law_1648 : decode cL_law 1648 = .ok (.iaload, 1) := by decide +kernel
theorem dL_law_1649 : decode cL_law 1649 = .ok (.invokevirtual 210, 3) := by decide +kernel
theorem dL_law_1652 : decode cL_law 1652 = .ok (.if_icmp .eq 162, 3) := by decide +kernel
theorem dL_law_1655 : decode cL_law 1655 = .ok (.iconst 0, 1) := by decide +kernel
theorem dL_law_1656 : decode cL_law 1656 = .ok (.ireturn, 1) := by decide +kernel
theorem dL_law_1657 : decode cL_law 1657 = .ok (.aload_n 1, 1) := by decide +kernel
theorem dL_law_1658 : decode cL_law 1658 = .ok (.aload_n 0, 1) := by decide +kernel
theorem dL_law_1659 : decode cL_law 1659 = .ok (.iload_n 3, 1) := by decide +kernel
theorem dL_law_1660 : decode cL_law 1660 = .ok (.iconst 1, 1) := by decide +kernel
theorem dL_law_1661 : decode cL_law 1661 = .ok (.iadd, 1) := by decide +kernel
theorem dL_law_1662 : decode cL_law 1662 = .ok (.iaload, 1) := by decide +kernel
theorem dL_law_1663 : decode cL_law 1663 = .ok (.aload_n 0, 1) := by decide +kernel
theorem dL_law_1664 : decode cL_law 1664 = .ok (.iload_n 3, 1) := by decide +kernel
theorem dL_law_1665 : decode cL_law 1665 = .ok (.iconst 2, 1) := by decide +kernel
theorem dL_law_1666 : decode cL_law 1666 = .ok (.iadd, 1) := by decide +kernel
theorem dL_law_1667 : decode cL_law 1667 = .ok (.iaload, 1) := by decide +kernel
theorem dL_law_1668 : decode cL_law 1668 = .ok (.invokevirtual 211, 3) := by decide +kernel
theorem dL_law_1671 : decode cL_law 1671 = .ok (.aload_n 2, 1) := by decide +kernel
theorem dL_law_1672 : decode cL_law 1672 = .ok (.aload_n 0, 1) := by decide +kernel
theorem dL_law_1673 : decode cL_law 1673 = .ok (.iload_n 3, 1) := by decide +kernel
theorem dL_law_1674 : decode cL_law 1674 = .ok (.iconst 1, 1) := by decide +kernel
theorem dL_law_1675 : decode cL_law 1675 = .ok (.iadd, 1) := by decide +kernel
theorem dL_law_1676 : decode cL_law 1676 = .ok (.iaload, 1) := by decide +kernel
theorem dL_law_1677 : decode cL_law 1677 = .ok (.aload_n 0, 1) := by decide +kernel
theorem dL_law_1678 : decode cL_law 1678 = .ok (.iload_n 3, 1) := by decide +kernel
theorem dL_law_1679 : decode cL_law 1679 = .ok (.iconst 2, 1) := by decide +kernel
theorem dL_law_1680 : decode cL_law 1680 = .ok (.iadd, 1) := by decide +kernel
theorem dL_law_1681 : decode cL_law 1681 = .ok (.iaload, 1) := by decide +kernel
theorem dL_law_1682 : decode cL_law 1682 = .ok (.invokevirtual 214, 3) := by decide +kernel
theorem dL_law_1685 : decode cL_law 1685 = .ok (.if_icmp .eq 129, 3) := by decide +kernel
theorem dL_law_1688 : decode cL_law 1688 = .ok (.iconst 0, 1) := by decide +kernel
theorem dL_law_1689 : decode cL_law 1689 = .ok (.ireturn, 1) := by decide +kernel
theorem dL_law_1690 : decode cL_law 1690 = .ok (.aload_n 1, 1) := by decide +kernel
theorem dL_law_1691 : decode cL_law 1691 = .ok (.invokevirtual 215, 3) := by decide +kernel
theorem dL_law_1694 : decode cL_law 1694 = .ok (.aload_n 2, 1) := by decide +kernel
theorem dL_law_1695 : decode cL_law 1695 = .ok (.invokevirtual 218, 3) := by decide +kernel
theorem dL_law_1698 : decode cL_law 1698 = .ok (.if_icmp .eq 116, 3) := by decide +kernel
theorem dL_law_1701 : decode cL_law 1701 = .ok (.iconst 0, 1) := by decide +kernel
theorem dL_law_1702 : decode cL_law 1702 = .ok (.ireturn, 1) := by decide +kernel
theorem dL_law_1703 : decode cL_law 1703 = .ok (.aload_n 1, 1) := by decide +kernel
theorem dL_law_1704 : decode cL_law 1704 = .ok (.invokevirtual 219, 3) := by decide +kernel
theorem dL_law_1707 : decode cL_law 1707 = .ok (.aload_n 2, 1) := by decide +kernel
theorem dL_law_1708 : decode cL_law 1708 = .ok (.invokevirtual 222, 3) := by decide +kernel
theorem dL_law_1711 : decode cL_law 1711 = .ok (.if_icmp .eq 103, 3) := by decide +kernel
theorem dL_law_1714 : decode cL_law 1714 = .ok (.iconst 0, 1) := by decide +kernel
theorem dL_law_1715 : decode cL_law 1715 = .ok (.ireturn, 1) := by decide +kernel
theorem dL_law_1716 : decode cL_law 1716 = .ok (.aload_n 1, 1) := by decide +kernel
theorem dL_law_1717 : decode cL_law 1717 = .ok (.invokevirtual 223, 3) := by decide +kernel
theorem dL_law_1720 : decode cL_law 1720 = .ok (.aload_n 2, 1) := by decide +kernel
theorem dL_law_1721 : decode cL_law 1721 = .ok (.invokevirtual 226, 3) := by decide +kernel
theorem dL_law_1724 : decode cL_law 1724 = .ok (.if_icmp .eq 90, 3) := by decide +kernel
theorem dL_law_1727 : decode cL_law 1727 = .ok (.iconst 0, 1) := by decide +kernel
theorem dL_law_1728 : decode cL_law 1728 = .ok (.ireturn, 1) := by decide +kernel
theorem dL_law_1729 : decode cL_law 1729 = .ok (.aload_n 1, 1) := by decide +kernel
theorem dL_law_1730 : decode cL_law 1730 = .ok (.invokevirtual 227, 3) := by decide +kernel
theorem dL_law_1733 : decode cL_law 1733 = .ok (.aload_n 2, 1) := by decide +kernel
theorem dL_law_1734 : decode cL_law 1734 = .ok (.invokevirtual 230, 3) := by decide +kernel
theorem dL_law_1737 : decode cL_law 1737 = .ok (.if_icmp .eq 77, 3) := by decide +kernel
theorem dL_law_1740 : decode cL_law 1740 = .ok (.iconst 0, 1) := by decide +kernel
theorem dL_law_1741 : decode cL_law 1741 = .ok (.ireturn, 1) := by decide +kernel
theorem dL_law_1742 : decode cL_law 1742 = .ok (.aload_n 1, 1) := by decide +kernel
theorem dL_law_1743 : decode cL_law 1743 = .ok (.aload_n 0, 1) := by decide +kernel
theorem dL_law_1744 : decode cL_law 1744 = .ok (.iload_n 3, 1) := by decide +kernel
theorem dL_law_1745 : decode cL_law 1745 = .ok (.iconst 1, 1) := by decide +kernel
theorem dL_law_1746 : decode cL_law 1746 = .ok (.iadd, 1) := by decide +kernel
theorem dL_law_1747 : decode cL_law 1747 = .ok (.iaload, 1) := by decide +kernel
theorem dL_law_1748 : decode cL_law 1748 = .ok (.invokevirtual 231, 3) := by decide +kernel
theorem dL_law_1751 : decode cL_law 1751 = .ok (.aload_n 2, 1) := by decide +kernel
theorem dL_law_1752 : decode cL_law 1752 = .ok (.aload_n 0, 1) := by decide +kernel
theorem dL_law_1753 : decode cL_law 1753 = .ok (.iload_n 3, 1) := by decide +kernel
theorem dL_law_1754 : decode cL_law 1754 = .ok (.iconst 1, 1) := by decide +kernel
theorem dL_law_1755 : decode cL_law 1755 = .ok (.iadd, 1) := by decide +kernel
theorem dL_law_1756 : decode cL_law 1756 = .ok (.iaload, 1) := by decide +kernel
theorem dL_law_1757 : decode cL_law 1757 = .ok (.invokevirtual 234, 3) := by decide +kernel
theorem dL_law_1760 : decode cL_law 1760 = .ok (.if_icmp .eq 54, 3) := by decide +kernel
theorem dL_law_1763 : decode cL_law 1763 = .ok (.iconst 0, 1) := by decide +kernel
theorem dL_law_1764 : decode cL_law 1764 = .ok (.ireturn, 1) := by decide +kernel
theorem dL_law_1765 : decode cL_law 1765 = .ok (.aload_n 1, 1) := by decide +kernel
theorem dL_law_1766 : decode cL_law 1766 = .ok (.invokevirtual 235, 3) := by decide +kernel
theorem dL_law_1769 : decode cL_law 1769 = .ok (.aload_n 2, 1) := by decide +kernel
theorem dL_law_1770 : decode cL_law 1770 = .ok (.invokevirtual 238, 3) := by decide +kernel
theorem dL_law_1773 : decode cL_law 1773 = .ok (.if_icmp .eq 41, 3) := by decide +kernel
theorem dL_law_1776 : decode cL_law 1776 = .ok (.iconst 0, 1) := by decide +kernel
theorem dL_law_1777 : decode cL_law 1777 = .ok (.ireturn, 1) := by decide +kernel
theorem dL_law_1778 : decode cL_law 1778 = .ok (.aload_n 1, 1) := by decide +kernel
theorem dL_law_1779 : decode cL_law 1779 = .ok (.invokevirtual 239, 3) := by decide +kernel
theorem dL_law_1782 : decode cL_law 1782 = .ok (.aload_n 2, 1) := by decide +kernel
theorem dL_law_1783 : decode cL_law 1783 = .ok (.invokevirtual 242, 3) := by decide +kernel
theorem dL_law_1786 : decode cL_law 1786 = .ok (.if_icmp .eq 28, 3) := by decide +kernel
theorem dL_law_1789 : decode cL_law 1789 = .ok (.iconst 0, 1) := by decide +kernel
theorem dL_law_1790 : decode cL_law 1790 = .ok (.ireturn, 1) := by decide +kernel
theorem dL_law_1791 : decode cL_law 1791 = .ok (.aload_n 1, 1) := by decide +kernel
theorem dL_law_1792 : decode cL_law 1792 = .ok (.aload_n 0, 1) := by decide +kernel
theorem dL_law_1793 : decode cL_law 1793 = .ok (.iload_n 3, 1) := by decide +kernel
theorem dL_law_1794 : decode cL_law 1794 = .ok (.iconst 1, 1) := by decide +kernel
theorem dL_law_1795 : decode cL_law 1795 = .ok (.iadd, 1) := by decide +kernel
theorem dL_law_1796 : decode cL_law 1796 = .ok (.iaload, 1) := by decide +kernel
theorem dL_law_1797 : decode cL_law 1797 = .ok (.invokevirtual 243, 3) := by decide +kernel
theorem dL_law_1800 : decode cL_law 1800 = .ok (.aload_n 2, 1) := by decide +kernel
theorem dL_law_1801 : decode cL_law 1801 = .ok (.aload_n 0, 1) := by decide +kernel
theorem dL_law_1802 : decode cL_law 1802 = .ok (.iload_n 3, 1) := by decide +kernel
theorem dL_law_1803 : decode cL_law 1803 = .ok (.iconst 1, 1) := by decide +kernel
theorem dL_law_1804 : decode cL_law 1804 = .ok (.iadd, 1) := by decide +kernel
theorem dL_law_1805 : decode cL_law 1805 = .ok (.iaload, 1) := by decide +kernel
theorem dL_law_1806 : decode cL_law 1806 = .ok (.invokevirtual 246, 3) := by decide +kernel
theorem dL_law_1809 : decode cL_law 1809 = .ok (.if_icmp .eq 5, 3) := by decide +kernel
theorem dL_law_1812 : decode cL_law 1812 = .ok (.iconst 0, 1) := by decide +kernel
theorem dL_law_1813 : decode cL_law 1813 = .ok (.ireturn, 1) := by decide +kernel
theorem dL_law_1814 : decode cL_law 1814 = .ok (.iinc 3 6, 3) := by decide +kernel
theorem dL_law_1817 : decode cL_law 1817 = .ok (.goto (-1799), 3) := by decide +kernel
theorem dL_law_1820 : decode cL_law 1820 = .ok (.iconst 1, 1) := by decide +kernel
theorem dL_law_1821 : decode cL_law 1821 = .ok (.ireturn, 1) := by decide +kernel
def B_L_law_1814 (L : Nat) (xs : Nat → Int32) (r1 : Option Nat) (r2 : Option Nat) (i3 : Int32) (k j : Nat) (μ : Me) (K18 : Int32 → Nat → Nat → Me → Prop) (Q : Int32 → Me → Prop) : Prop := K18 (i3 + 6) k j μ
set_option maxHeartbeats 4000000 in
set_option maxRecDepth 100000 in
theorem tB_L_law_1814 {x : GX} {b L : Nat} {xs : Nat → Int32} (f : Fx x cL_law RL 4 room_1) {r1 : Option Nat} {r2 : Option Nat} {i3 : Int32} {k j : Nat} {μ : Me} {Q : Int32 → Me → Prop} (hx : Lx x b L xs) {K18 : Int32 → Nat → Nat → Me → Prop} (hK18 : ∀ (a3 : Int32) (k j : Nat) (ν : Me), K18 a3 k j ν → G x 4 18 [(0, .ref b), (1, vr (gB x) r1), (2, vr (gB x) r2), (3, .int a3)] [] ν k j) (h : B_L_law_1814 L xs r1 r2 i3 k j μ K18 Q) : G x 4 1814 [(0, .ref b), (1, vr (gB x) r1), (2, vr (gB x) r2), (3, .int i3)] [] μ k j := by
  unfold B_L_law_1814 at h
  refine q_iinc f (by simp [vr_cat, c_int, c_ref, c_long]) 3 6 dL_law_1814 rfl kc_6 (by decide) ?_
  refine g_goto f 18 dL_law_1817 rfl ?_
  exact h_sub [1, 2, 3, 0] rfl (hK18 _ _ _ _ h)
def B_L_law_272 (L : Nat) (xs : Nat → Int32) (r1 : Option Nat) (r2 : Option Nat) (i3 : Int32) (k j : Nat) (μ : Me) (K18 : Int32 → Nat → Nat → Me → Prop) (Q : Int32 → Me → Prop) : Prop := vp_in (i3 + 1) L ∧ vp_in (i3 + 2) L ∧ vp_in (i3 + 3) L ∧ vp_in (i3 + 4) L ∧ ∃ t15, r1 = some t15 ∧ mok μ t15 10 ∧ (k + 0 ≤ 600000 ∧ j + 0 ≤ 7302250) ∧ S_X10_person t15 (xs (i3 + 1).toNatClampNeg) (xs (i3 + 2).toNatClampNeg) (xs (i3 + 3).toNatClampNeg) (xs (i3 + 4).toNatClampNeg) μ (fun r22 μ19 => vp_in (i3 + 1) L ∧ vp_in (i3 + 2) L ∧ vp_in (i3 + 3) L ∧ vp_in (i3 + 4) L ∧ ∃ t23, r2 = some t23 ∧ mok μ19 t23 11 ∧ ((k + 0) + 0 ≤ 600000 ∧ (j + 0) + 0 ≤ 7302250) ∧ S_X11_person t23 (xs (i3 + 1).toNatClampNeg) (xs (i3 + 2).toNatClampNeg) (xs (i3 + 3).toNatClampNeg) (xs (i3 + 4).toNatClampNeg) μ19 (fun r30 μ27 => ((r22 = r30 → B_L_law_1814 L xs (some t15) (some t23) i3 ((k + 0) + 0) ((j + 0) + 0) μ27 K18 Q) ∧ (¬ r22 = r30 → (((k + 0) + 0) ≤ 600000 ∧ ((j + 0) + 0) ≤ 7302250) ∧ (0 : Int32) = 1))))
set_option maxHeartbeats 4000000 in
set_option maxRecDepth 100000 in
theorem tB_L_law_272 {x : GX} {b L : Nat} {xs : Nat → Int32} (f : Fx x cL_law RL 4 room_1) {r1 : Option Nat} {r2 : Option Nat} {i3 : Int32} {k j : Nat} {μ : Me} {Q : Int32 → Me → Prop} (hx : Lx x b L xs) {K18 : Int32 → Nat → Nat → Me → Prop} (hK18 : ∀ (a3 : Int32) (k j : Nat) (ν : Me), K18 a3 k j ν → G x 4 18 [(0, .ref b), (1, vr (gB x) r1), (2, vr (gB x) r2), (3, .int a3)] [] ν k j) (h : B_L_law_272 L xs r1 r2 i3 k j μ K18 Q) : G x 4 272 [(0, .ref b), (1, vr (gB x) r1), (2, vr (gB x) r2), (3, .int i3)] [] μ k j := by
  unfold B_L_law_272 at h
  refine g_aload_nQ f 1 dL_law_272 rfl rfl ?_
  refine g_aload_n f 0 dL_law_273 rfl rfl ?_
  refine g_iload_n f 3 dL_law_274 rfl rfl ?_
  refine g_iconst f 1 dL_law_275 kc_1 ?_
  refine g_iadd f dL_law_276 ?_
  refine g_sld f hx dL_law_277 h (fun h => ?_)
  refine g_aload_n f 0 dL_law_278 rfl rfl ?_
  refine g_iload_n f 3 dL_law_279 rfl rfl ?_
  refine g_iconst f 2 dL_law_280 kc_2 ?_
  refine g_iadd f dL_law_281 ?_
  refine g_sld f hx dL_law_282 h (fun h => ?_)
  refine g_aload_n f 0 dL_law_283 rfl rfl ?_
  refine g_iload_n f 3 dL_law_284 rfl rfl ?_
  refine g_iconst f 3 dL_law_285 kc_3 ?_
  refine g_iadd f dL_law_286 ?_
  refine g_sld f hx dL_law_287 h (fun h => ?_)
  refine g_aload_n f 0 dL_law_288 rfl rfl ?_
  refine g_iload_n f 3 dL_law_289 rfl rfl ?_
  refine g_iconst f 4 dL_law_290 kc_4 ?_
  refine g_iadd f dL_law_291 ?_
  refine g_sld f hx dL_law_292 h (fun h => ?_)
  obtain ⟨t15, e16, h17⟩ := h
  subst e16
  have h := h17
  obtain ⟨v18, h⟩ := h
  obtain ⟨⟨c21, c21b⟩, h⟩ := h
  refine g_callV f mk_L_13 v18 (c_X10_person h) dL_law_293 rfl rfl (Nat.le_of_ble_eq_true rfl) (rm_okL (by decide) (by decide)) ⟨c21, c21b⟩ (kI fun r22 μ19 x20 h => ?_)
  refine g_aload_nQ f 2 dL_law_296 rfl rfl ?_
  refine g_aload_n f 0 dL_law_297 rfl rfl ?_
  refine g_iload_n f 3 dL_law_298 rfl rfl ?_
  refine g_iconst f 1 dL_law_299 kc_1 ?_
  refine g_iadd f dL_law_300 ?_
  refine g_sld f hx dL_law_301 h (fun h => ?_)
  refine g_aload_n f 0 dL_law_302 rfl rfl ?_
  refine g_iload_n f 3 dL_law_303 rfl rfl ?_
  refine g_iconst f 2 dL_law_304 kc_2 ?_
  refine g_iadd f dL_law_305 ?_
  refine g_sld f hx dL_law_306 h (fun h => ?_)
  refine g_aload_n f 0 dL_law_307 rfl rfl ?_
  refine g_iload_n f 3 dL_law_308 rfl rfl ?_
  refine g_iconst f 3 dL_law_309 kc_3 ?_
  refine g_iadd f dL_law_310 ?_
  refine g_sld f hx dL_law_311 h (fun h => ?_)
  refine g_aload_n f 0 dL_law_312 rfl rfl ?_
  refine g_iload_n f 3 dL_law_313 rfl rfl ?_
  refine g_iconst f 4 dL_law_314 kc_4 ?_
  refine g_iadd f dL_law_315 ?_
  refine g_sld f hx dL_law_316 h (fun h => ?_)
  obtain ⟨t23, e24, h25⟩ := h
  subst e24
  have h := h25
  obtain ⟨v26, h⟩ := h
  obtain ⟨⟨c29, c29b⟩, h⟩ := h
  refine g_callV f mk_L_17 v26 (c_X11_person h) dL_law_317 rfl rfl (Nat.le_of_ble_eq_true rfl) (rm_okL (by decide) (by decide)) ⟨c29, c29b⟩ (kI fun r30 μ27 x28 h => ?_)
  refine g_ic_eq f 1814 dL_law_320 rfl h (fun h => ?_) (fun h => ?_)
  · exact h_sub [0, 1, 2, 3] rfl (tB_L_law_1814 f hx hK18 h)
  · refine g_iconst f 0 dL_law_323 kc_0 ?_
    obtain ⟨⟨c31, c31b⟩, h⟩ := h
    exact g_lawret f hx c31 c31b rfl dL_law_324 h
def B_L_law_376 (L : Nat) (xs : Nat → Int32) (r1 : Option Nat) (r2 : Option Nat) (i3 : Int32) (s0 : Int32) (s1 : Int32) (s2 : Int32) (s3 : Option Nat) (s4 : Int32) (k j : Nat) (μ : Me) (K18 : Int32 → Nat → Nat → Me → Prop) (Q : Int32 → Me → Prop) : Prop := ∃ t41, s3 = some t41 ∧ mok μ t41 11 ∧ (k + 0 ≤ 600000 ∧ j + 0 ≤ 7302250) ∧ S_X11_hears t41 s2 s1 s0 μ (fun r48 μ45 => ((s4 = r48 → B_L_law_1814 L xs r1 r2 i3 (k + 0) (j + 0) μ45 K18 Q) ∧ (¬ s4 = r48 → ((k + 0) ≤ 600000 ∧ (j + 0) ≤ 7302250) ∧ (0 : Int32) = 1)))
set_option maxHeartbeats 4000000 in
set_option maxRecDepth 100000 in
theorem tB_L_law_376 {x : GX} {b L : Nat} {xs : Nat → Int32} (f : Fx x cL_law RL 4 room_1) {r1 : Option Nat} {r2 : Option Nat} {i3 : Int32} {s0 : Int32} {s1 : Int32} {s2 : Int32} {s3 : Option Nat} {s4 : Int32} {k j : Nat} {μ : Me} {Q : Int32 → Me → Prop} (hx : Lx x b L xs) {K18 : Int32 → Nat → Nat → Me → Prop} (hK18 : ∀ (a3 : Int32) (k j : Nat) (ν : Me), K18 a3 k j ν → G x 4 18 [(0, .ref b), (1, vr (gB x) r1), (2, vr (gB x) r2), (3, .int a3)] [] ν k j) (h : B_L_law_376 L xs r1 r2 i3 s0 s1 s2 s3 s4 k j μ K18 Q) : G x 4 376 [(0, .ref b), (1, vr (gB x) r1), (2, vr (gB x) r2), (3, .int i3)] [.int s0, .int s1, .int s2, vr (gB x) s3, .int s4] μ k j := by
  unfold B_L_law_376 at h
  obtain ⟨t41, e42, h43⟩ := h
  subst e42
  have h := h43
  obtain ⟨v44, h⟩ := h
  obtain ⟨⟨c47, c47b⟩, h⟩ := h
  refine g_callV f mk_L_22 v44 (c_X11_hears h) dL_law_376 rfl rfl (Nat.le_of_ble_eq_true rfl) (rm_okL (by decide) (by decide)) ⟨c47, c47b⟩ (kI fun r48 μ45 x46 h => ?_)
  refine g_ic_eq f 1814 dL_law_379 rfl h (fun h => ?_) (fun h => ?_)
  · exact h_sub [0, 1, 2, 3] rfl (tB_L_law_1814 f hx hK18 h)
  · refine g_iconst f 0 dL_law_382 kc_0 ?_
    obtain ⟨⟨c49, c49b⟩, h⟩ := h
    exact g_lawret f hx c49 c49b rfl dL_law_383 h
def B_L_law_349 (L : Nat) (xs : Nat → Int32) (r1 : Option Nat) (r2 : Option Nat) (i3 : Int32) (s0 : Int32) (s1 : Int32) (s2 : Int32) (s3 : Option Nat) (k j : Nat) (μ : Me) (K18 : Int32 → Nat → Nat → Me → Prop) (Q : Int32 → Me → Prop) : Prop := ∃ t33, s3 = some t33 ∧ mok μ t33 10 ∧ (k + 0 ≤ 600000 ∧ j + 0 ≤ 7302250) ∧ S_X10_hears t33 s2 s1 s0 μ (fun r40 μ37 => vp_in (i3 + 1) L ∧ vp_in (i3 + 2) L ∧ vp_in (i3 + 3) L ∧ (((xs (i3 + 3).toNatClampNeg) = 0 → B_L_law_376 L xs r1 r2 i3 0 (xs (i3 + 2).toNatClampNeg) (xs (i3 + 1).toNatClampNeg) r2 r40 (k + 0) (j + 0) μ37 K18 Q) ∧ (¬ (xs (i3 + 3).toNatClampNeg) = 0 → B_L_law_376 L xs r1 r2 i3 1 (xs (i3 + 2).toNatClampNeg) (xs (i3 + 1).toNatClampNeg) r2 r40 (k + 0) (j + 0) μ37 K18 Q)))
set_option maxHeartbeats 4000000 in
set_option maxRecDepth 100000 in
theorem tB_L_law_349 {x : GX} {b L : Nat} {xs : Nat → Int32} (f : Fx x cL_law RL 4 room_1) {r1 : Option Nat} {r2 : Option Nat} {i3 : Int32} {s0 : Int32} {s1 : Int32} {s2 : Int32} {s3 : Option Nat} {k j : Nat} {μ : Me} {Q : Int32 → Me → Prop} (hx : Lx x b L xs) {K18 : Int32 → Nat → Nat → Me → Prop} (hK18 : ∀ (a3 : Int32) (k j : Nat) (ν : Me), K18 a3 k j ν → G x 4 18 [(0, .ref b), (1, vr (gB x) r1), (2, vr (gB x) r2), (3, .int a3)] [] ν k j) (h : B_L_law_349 L xs r1 r2 i3 s0 s1 s2 s3 k j μ K18 Q) : G x 4 349 [(0, .ref b), (1, vr (gB x) r1), (2, vr (gB x) r2), (3, .int i3)] [.int s0, .int s1, .int s2, vr (gB x) s3] μ k j := by
  unfold B_L_law_349 at h
  obtain ⟨t33, e34, h35⟩ := h
  subst e34
  have h := h35
  obtain ⟨v36, h⟩ := h
  obtain ⟨⟨c39, c39b⟩, h⟩ := h
  refine g_callV f mk_L_18 v36 (c_X10_hears h) dL_law_349 rfl rfl (Nat.le_of_ble_eq_true rfl) (rm_okL (by decide) (by decide)) ⟨c39, c39b⟩ (kI fun r40 μ37 x38 h => ?_)
  refine g_aload_nQ f 2 dL_law_352 rfl rfl ?_
  refine g_aload_n f 0 dL_law_353 rfl rfl ?_
  refine g_iload_n f 3 dL_law_354 rfl rfl ?_
  refine g_iconst f 1 dL_law_355 kc_1 ?_
  refine g_iadd f dL_law_356 ?_
  refine g_sld f hx dL_law_357 h (fun h => ?_)
  refine g_aload_n f 0 dL_law_358 rfl rfl ?_
  refine g_iload_n f 3 dL_law_359 rfl rfl ?_
  refine g_iconst f 2 dL_law_360 kc_2 ?_
  refine g_iadd f dL_law_361 ?_
  refine g_sld f hx dL_law_362 h (fun h => ?_)
  refine g_aload_n f 0 dL_law_363 rfl rfl ?_
  refine g_iload_n f 3 dL_law_364 rfl rfl ?_
  refine g_iconst f 3 dL_law_365 kc_3 ?_
  refine g_iadd f dL_law_366 ?_
  refine g_sld f hx dL_law_367 h (fun h => ?_)
  refine g_if_eq f 375 dL_law_368 rfl h (fun h => ?_) (fun h => ?_)
  · refine g_iconst f 0 dL_law_375 kc_0 ?_
    exact h_sub [0, 1, 2, 3] rfl (tB_L_law_376 f hx hK18 h)
  · refine g_iconst f 1 dL_law_371 kc_1 ?_
    refine g_goto f 376 dL_law_372 rfl ?_
    exact h_sub [0, 1, 2, 3] rfl (tB_L_law_376 f hx hK18 h)
def B_L_law_325 (L : Nat) (xs : Nat → Int32) (r1 : Option Nat) (r2 : Option Nat) (i3 : Int32) (k j : Nat) (μ : Me) (K18 : Int32 → Nat → Nat → Me → Prop) (Q : Int32 → Me → Prop) : Prop := vp_in (i3 + 1) L ∧ vp_in (i3 + 2) L ∧ vp_in (i3 + 3) L ∧ (((xs (i3 + 3).toNatClampNeg) = 0 → B_L_law_349 L xs r1 r2 i3 0 (xs (i3 + 2).toNatClampNeg) (xs (i3 + 1).toNatClampNeg) r1 k j μ K18 Q) ∧ (¬ (xs (i3 + 3).toNatClampNeg) = 0 → B_L_law_349 L xs r1 r2 i3 1 (xs (i3 + 2).toNatClampNeg) (xs (i3 + 1).toNatClampNeg) r1 k j μ K18 Q))
set_option maxHeartbeats 4000000 in
set_option maxRecDepth 100000 in
theorem tB_L_law_325 {x : GX} {b L : Nat} {xs : Nat → Int32} (f : Fx x cL_law RL 4 room_1) {r1 : Option Nat} {r2 : Option Nat} {i3 : Int32} {k j : Nat} {μ : Me} {Q : Int32 → Me → Prop} (hx : Lx x b L xs) {K18 : Int32 → Nat → Nat → Me → Prop} (hK18 : ∀ (a3 : Int32) (k j : Nat) (ν : Me), K18 a3 k j ν → G x 4 18 [(0, .ref b), (1, vr (gB x) r1), (2, vr (gB x) r2), (3, .int a3)] [] ν k j) (h : B_L_law_325 L xs r1 r2 i3 k j μ K18 Q) : G x 4 325 [(0, .ref b), (1, vr (gB x) r1), (2, vr (gB x) r2), (3, .int i3)] [] μ k j := by
  unfold B_L_law_325 at h
  refine g_aload_nQ f 1 dL_law_325 rfl rfl ?_
  refine g_aload_n f 0 dL_law_326 rfl rfl ?_
  refine g_iload_n f 3 dL_law_327 rfl rfl ?_
  refine g_iconst f 1 dL_law_328 kc_1 ?_
  refine g_iadd f dL_law_329 ?_
  refine g_sld f hx dL_law_330 h (fun h => ?_)
  refine g_aload_n f 0 dL_law_331 rfl rfl ?_
  refine g_iload_n f 3 dL_law_332 rfl rfl ?_
  refine g_iconst f 2 dL_law_333 kc_2 ?_
  refine g_iadd f dL_law_334 ?_
  refine g_sld f hx dL_law_335 h (fun h => ?_)
  refine g_aload_n f 0 dL_law_336 rfl rfl ?_
  refine g_iload_n f 3 dL_law_337 rfl rfl ?_
  refine g_iconst f 3 dL_law_338 kc_3 ?_
  refine g_iadd f dL_law_339 ?_
  refine g_sld f hx dL_law_340 h (fun h => ?_)
  refine g_if_eq f 348 dL_law_341 rfl h (fun h => ?_) (fun h => ?_)
  · refine g_iconst f 0 dL_law_348 kc_0 ?_
    exact h_sub [0, 1, 2, 3] rfl (tB_L_law_349 f hx hK18 h)
  · refine g_iconst f 1 dL_law_344 kc_1 ?_
    refine g_goto f 349 dL_law_345 rfl ?_
    exact h_sub [0, 1, 2, 3] rfl (tB_L_law_349 f hx hK18 h)
def B_L_law_384 (L : Nat) (xs : Nat → Int32) (r1 : Option Nat) (r2 : Option Nat) (i3 : Int32) (k j : Nat) (μ : Me) (K18 : Int32 → Nat → Nat → Me → Prop) (Q : Int32 → Me → Prop) : Prop := vp_in (i3 + 1) L ∧ vp_in (i3 + 2) L ∧ vp_in (i3 + 3) L ∧ vp_in (i3 + 4) L ∧ vp_in (i3 + 5) L ∧ ∃ t51, r1 = some t51 ∧ mok μ t51 10 ∧ (k + 0 ≤ 600000 ∧ j + 0 ≤ 7302250) ∧ S_X10_feed t51 (xs (i3 + 1).toNatClampNeg) (xs (i3 + 2).toNatClampNeg) (xs (i3 + 3).toNatClampNeg) (xs (i3 + 4).toNatClampNeg) (xs (i3 + 5).toNatClampNeg) μ (fun r58 μ55 => vp_in (i3 + 1) L ∧ vp_in (i3 + 2) L ∧ vp_in (i3 + 3) L ∧ vp_in (i3 + 4) L ∧ vp_in (i3 + 5) L ∧ ∃ t59, r2 = some t59 ∧ mok μ55 t59 11 ∧ ((k + 0) + 0 ≤ 600000 ∧ (j + 0) + 0 ≤ 7302250) ∧ S_X11_feed t59 (xs (i3 + 1).toNatClampNeg) (xs (i3 + 2).toNatClampNeg) (xs (i3 + 3).toNatClampNeg) (xs (i3 + 4).toNatClampNeg) (xs (i3 + 5).toNatClampNeg) μ55 (fun r66 μ63 => ((r58 = r66 → B_L_law_1814 L xs (some t51) (some t59) i3 ((k + 0) + 0) ((j + 0) + 0) μ63 K18 Q) ∧ (¬ r58 = r66 → (((k + 0) + 0) ≤ 600000 ∧ ((j + 0) + 0) ≤ 7302250) ∧ (0 : Int32) = 1))))
set_option maxHeartbeats 4000000 in
set_option maxRecDepth 100000 in
theorem tB_L_law_384 {x : GX} {b L : Nat} {xs : Nat → Int32} (f : Fx x cL_law RL 4 room_1) {r1 : Option Nat} {r2 : Option Nat} {i3 : Int32} {k j : Nat} {μ : Me} {Q : Int32 → Me → Prop} (hx : Lx x b L xs) {K18 : Int32 → Nat → Nat → Me → Prop} (hK18 : ∀ (a3 : Int32) (k j : Nat) (ν : Me), K18 a3 k j ν → G x 4 18 [(0, .ref b), (1, vr (gB x) r1), (2, vr (gB x) r2), (3, .int a3)] [] ν k j) (h : B_L_law_384 L xs r1 r2 i3 k j μ K18 Q) : G x 4 384 [(0, .ref b), (1, vr (gB x) r1), (2, vr (gB x) r2), (3, .int i3)] [] μ k j := by
  unfold B_L_law_384 at h
  refine g_aload_nQ f 1 dL_law_384 rfl rfl ?_
  refine g_aload_n f 0 dL_law_385 rfl rfl ?_
  refine g_iload_n f 3 dL_law_386 rfl rfl ?_
  refine g_iconst f 1 dL_law_387 kc_1 ?_
  refine g_iadd f dL_law_388 ?_
  refine g_sld f hx dL_law_389 h (fun h => ?_)
  refine g_aload_n f 0 dL_law_390 rfl rfl ?_
  refine g_iload_n f 3 dL_law_391 rfl rfl ?_
  refine g_iconst f 2 dL_law_392 kc_2 ?_
  refine g_iadd f dL_law_393 ?_
  refine g_sld f hx dL_law_394 h (fun h => ?_)
  refine g_aload_n f 0 dL_law_395 rfl rfl ?_
  refine g_iload_n f 3 dL_law_396 rfl rfl ?_
  refine g_iconst f 3 dL_law_397 kc_3 ?_
  refine g_iadd f dL_law_398 ?_
  refine g_sld f hx dL_law_399 h (fun h => ?_)
  refine g_aload_n f 0 dL_law_400 rfl rfl ?_
  refine g_iload_n f 3 dL_law_401 rfl rfl ?_
  refine g_iconst f 4 dL_law_402 kc_4 ?_
  refine g_iadd f dL_law_403 ?_
  refine g_sld f hx dL_law_404 h (fun h => ?_)
  refine g_aload_n f 0 dL_law_405 rfl rfl ?_
  refine g_iload_n f 3 dL_law_406 rfl rfl ?_
  refine g_iconst f 5 dL_law_407 kc_5 ?_
  refine g_iadd f dL_law_408 ?_
  refine g_sld f hx dL_law_409 h (fun h => ?_)
  obtain ⟨t51, e52, h53⟩ := h
  subst e52
  have h := h53
  obtain ⟨v54, h⟩ := h
  obtain ⟨⟨c57, c57b⟩, h⟩ := h
  refine g_callV f mk_L_23 v54 (c_X10_feed h) dL_law_410 rfl rfl (Nat.le_of_ble_eq_true rfl) (rm_okL (by decide) (by decide)) ⟨c57, c57b⟩ (kI fun r58 μ55 x56 h => ?_)
  refine g_aload_nQ f 2 dL_law_413 rfl rfl ?_
  refine g_aload_n f 0 dL_law_414 rfl rfl ?_
  refine g_iload_n f 3 dL_law_415 rfl rfl ?_
  refine g_iconst f 1 dL_law_416 kc_1 ?_
  refine g_iadd f dL_law_417 ?_
  refine g_sld f hx dL_law_418 h (fun h => ?_)
  refine g_aload_n f 0 dL_law_419 rfl rfl ?_
  refine g_iload_n f 3 dL_law_420 rfl rfl ?_
  refine g_iconst f 2 dL_law_421 kc_2 ?_
  refine g_iadd f dL_law_422 ?_
  refine g_sld f hx dL_law_423 h (fun h => ?_)
  refine g_aload_n f 0 dL_law_424 rfl rfl ?_
  refine g_iload_n f 3 dL_law_425 rfl rfl ?_
  refine g_iconst f 3 dL_law_426 kc_3 ?_
  refine g_iadd f dL_law_427 ?_
  refine g_sld f hx dL_law_428 h (fun h => ?_)
  refine g_aload_n f 0 dL_law_429 rfl rfl ?_
  refine g_iload_n f 3 dL_law_430 rfl rfl ?_
  refine g_iconst f 4 dL_law_431 kc_4 ?_
  refine g_iadd f dL_law_432 ?_
  refine g_sld f hx dL_law_433 h (fun h => ?_)
  refine g_aload_n f 0 dL_law_434 rfl rfl ?_
  refine g_iload_n f 3 dL_law_435 rfl rfl ?_
  refine g_iconst f 5 dL_law_436 kc_5 ?_
  refine g_iadd f dL_law_437 ?_
  refine g_sld f hx dL_law_438 h (fun h => ?_)
  obtain ⟨t59, e60, h61⟩ := h
  subst e60
  have h := h61
  obtain ⟨v62, h⟩ := h
  obtain ⟨⟨c65, c65b⟩, h⟩ := h
  refine g_callV f mk_L_27 v62 (c_X11_feed h) dL_law_439 rfl rfl (Nat.le_of_ble_eq_true rfl) (rm_okL (by decide) (by decide)) ⟨c65, c65b⟩ (kI fun r66 μ63 x64 h => ?_)
  refine g_ic_eq f 1814 dL_law_442 rfl h (fun h => ?_) (fun h => ?_)
  · exact h_sub [0, 1, 2, 3] rfl (tB_L_law_1814 f hx hK18 h)
  · refine g_iconst f 0 dL_law_445 kc_0 ?_
    obtain ⟨⟨c67, c67b⟩, h⟩ := h
    exact g_lawret f hx c67 c67b rfl dL_law_446 h
def B_L_law_447 (L : Nat) (xs : Nat → Int32) (r1 : Option Nat) (r2 : Option Nat) (i3 : Int32) (k j : Nat) (μ : Me) (K18 : Int32 → Nat → Nat → Me → Prop) (Q : Int32 → Me → Prop) : Prop := vp_in (i3 + 1) L ∧ ∃ t69, r1 = some t69 ∧ mok μ t69 10 ∧ (k + 0 ≤ 600000 ∧ j + 0 ≤ 7302250) ∧ S_X10_end t69 (xs (i3 + 1).toNatClampNeg) μ (fun r76 μ73 => vp_in (i3 + 1) L ∧ ∃ t77, r2 = some t77 ∧ mok μ73 t77 11 ∧ ((k + 0) + 0 ≤ 600000 ∧ (j + 0) + 0 ≤ 7302250) ∧ S_X11_end t77 (xs (i3 + 1).toNatClampNeg) μ73 (fun r84 μ81 => ((r76 = r84 → B_L_law_1814 L xs (some t69) (some t77) i3 ((k + 0) + 0) ((j + 0) + 0) μ81 K18 Q) ∧ (¬ r76 = r84 → (((k + 0) + 0) ≤ 600000 ∧ ((j + 0) + 0) ≤ 7302250) ∧ (0 : Int32) = 1))))
set_option maxHeartbeats 4000000 in
set_option maxRecDepth 100000 in
theorem tB_L_law_447 {x : GX} {b L : Nat} {xs : Nat → Int32} (f : Fx x cL_law RL 4 room_1) {r1 : Option Nat} {r2 : Option Nat} {i3 : Int32} {k j : Nat} {μ : Me} {Q : Int32 → Me → Prop} (hx : Lx x b L xs) {K18 : Int32 → Nat → Nat → Me → Prop} (hK18 : ∀ (a3 : Int32) (k j : Nat) (ν : Me), K18 a3 k j ν → G x 4 18 [(0, .ref b), (1, vr (gB x) r1), (2, vr (gB x) r2), (3, .int a3)] [] ν k j) (h : B_L_law_447 L xs r1 r2 i3 k j μ K18 Q) : G x 4 447 [(0, .ref b), (1, vr (gB x) r1), (2, vr (gB x) r2), (3, .int i3)] [] μ k j := by
  unfold B_L_law_447 at h
  refine g_aload_nQ f 1 dL_law_447 rfl rfl ?_
  refine g_aload_n f 0 dL_law_448 rfl rfl ?_
  refine g_iload_n f 3 dL_law_449 rfl rfl ?_
  refine g_iconst f 1 dL_law_450 kc_1 ?_
  refine g_iadd f dL_law_451 ?_
  refine g_sld f hx dL_law_452 h (fun h => ?_)
  obtain ⟨t69, e70, h71⟩ := h
  subst e70
  have h := h71
  obtain ⟨v72, h⟩ := h
  obtain ⟨⟨c75, c75b⟩, h⟩ := h
  refine g_callV f mk_L_28 v72 (c_X10_end h) dL_law_453 rfl rfl (Nat.le_of_ble_eq_true rfl) (rm_okL (by decide) (by decide)) ⟨c75, c75b⟩ (kI fun r76 μ73 x74 h => ?_)
  refine g_aload_nQ f 2 dL_law_456 rfl rfl ?_
  refine g_aload_n f 0 dL_law_457 rfl rfl ?_
  refine g_iload_n f 3 dL_law_458 rfl rfl ?_
  refine g_iconst f 1 dL_law_459 kc_1 ?_
  refine g_iadd f dL_law_460 ?_
  refine g_sld f hx dL_law_461 h (fun h => ?_)
  obtain ⟨t77, e78, h79⟩ := h
  subst e78
  have h := h79
  obtain ⟨v80, h⟩ := h
  obtain ⟨⟨c83, c83b⟩, h⟩ := h
  refine g_callV f mk_L_32 v80 (c_X11_end h) dL_law_462 rfl rfl (Nat.le_of_ble_eq_true rfl) (rm_okL (by decide) (by decide)) ⟨c83, c83b⟩ (kI fun r84 μ81 x82 h => ?_)
  refine g_ic_eq f 1814 dL_law_465 rfl h (fun h => ?_) (fun h => ?_)
  · exact h_sub [0, 1, 2, 3] rfl (tB_L_law_1814 f hx hK18 h)
  · refine g_iconst f 0 dL_law_468 kc_0 ?_
    obtain ⟨⟨c85, c85b⟩, h⟩ := h
    exact g_lawret f hx c85 c85b rfl dL_law_469 h
def B_L_law_470 (L : Nat) (xs : Nat → Int32) (r1 : Option Nat) (r2 : Option Nat) (i3 : Int32) (k j : Nat) (μ : Me) (K18 : Int32 → Nat → Nat → Me → Prop) (Q : Int32 → Me → Prop) : Prop := ∃ t87, r1 = some t87 ∧ mok μ t87 10 ∧ (k + 0 ≤ 600000 ∧ j + 0 ≤ 7302250) ∧ S_X10_text t87 μ (fun r94 μ91 => ∃ t95, r2 = some t95 ∧ mok μ91 t95 11 ∧ ((k + 0) + 0 ≤ 600000 ∧ (j + 0) + 0 ≤ 7302250) ∧ S_X11_text t95 μ91 (fun r102 μ99 => ((r94 = r102 → B_L_law_1814 L xs (some t87) (some t95) i3 ((k + 0) + 0) ((j + 0) + 0) μ99 K18 Q) ∧ (¬ r94 = r102 → (((k + 0) + 0) ≤ 600000 ∧ ((j + 0) + 0) ≤ 7302250) ∧ (0 : Int32) = 1))))
set_option maxHeartbeats 4000000 in
set_option maxRecDepth 100000 in
theorem tB_L_law_470 {x : GX} {b L : Nat} {xs : Nat → Int32} (f : Fx x cL_law RL 4 room_1) {r1 : Option Nat} {r2 : Option Nat} {i3 : Int32} {k j : Nat} {μ : Me} {Q : Int32 → Me → Prop} (hx : Lx x b L xs) {K18 : Int32 → Nat → Nat → Me → Prop} (hK18 : ∀ (a3 : Int32) (k j : Nat) (ν : Me), K18 a3 k j ν → G x 4 18 [(0, .ref b), (1, vr (gB x) r1), (2, vr (gB x) r2), (3, .int a3)] [] ν k j) (h : B_L_law_470 L xs r1 r2 i3 k j μ K18 Q) : G x 4 470 [(0, .ref b), (1, vr (gB x) r1), (2, vr (gB x) r2), (3, .int i3)] [] μ k j := by
  unfold B_L_law_470 at h
  refine g_aload_nQ f 1 dL_law_470 rfl rfl ?_
  obtain ⟨t87, e88, h89⟩ := h
  subst e88
  have h := h89
  obtain ⟨v90, h⟩ := h
  obtain ⟨⟨c93, c93b⟩, h⟩ := h
  refine g_callV f mk_L_33 v90 (c_X10_text h) dL_law_471 rfl rfl (Nat.le_of_ble_eq_true rfl) (rm_okL (by decide) (by decide)) ⟨c93, c93b⟩ (kI fun r94 μ91 x92 h => ?_)
  refine g_aload_nQ f 2 dL_law_474 rfl rfl ?_
  obtain ⟨t95, e96, h97⟩ := h
  subst e96
  have h := h97
  obtain ⟨v98, h⟩ := h
  obtain ⟨⟨c101, c101b⟩, h⟩ := h
  refine g_callV f mk_L_37 v98 (c_X11_text h) dL_law_475 rfl rfl (Nat.le_of_ble_eq_true rfl) (rm_okL (by decide) (by decide)) ⟨c101, c101b⟩ (kI fun r102 μ99 x100 h => ?_)
  refine g_ic_eq f 1814 dL_law_478 rfl h (fun h => ?_) (fun h => ?_)
  · exact h_sub [0, 1, 2, 3] rfl (tB_L_law_1814 f hx hK18 h)
  · refine g_iconst f 0 dL_law_481 kc_0 ?_
    obtain ⟨⟨c103, c103b⟩, h⟩ := h
    exact g_lawret f hx c103 c103b rfl dL_law_482 h
def B_L_law_483 (L : Nat) (xs : Nat → Int32) (r1 : Option Nat) (r2 : Option Nat) (i3 : Int32) (k j : Nat) (μ : Me) (K18 : Int32 → Nat → Nat → Me → Prop) (Q : Int32 → Me → Prop) : Prop := vp_in (i3 + 1) L ∧ ∃ t105, r1 = some t105 ∧ mok μ t105 10 ∧ (k + 0 ≤ 600000 ∧ j + 0 ≤ 7302250) ∧ S_X10_fault t105 (xs (i3 + 1).toNatClampNeg) μ (fun r112 μ109 => vp_in (i3 + 1) L ∧ ∃ t113, r2 = some t113 ∧ mok μ109 t113 11 ∧ ((k + 0) + 0 ≤ 600000 ∧ (j + 0) + 0 ≤ 7302250) ∧ S_X11_fault t113 (xs (i3 + 1).toNatClampNeg) μ109 (fun r120 μ117 => ((r112 = r120 → B_L_law_1814 L xs (some t105) (some t113) i3 ((k + 0) + 0) ((j + 0) + 0) μ117 K18 Q) ∧ (¬ r112 = r120 → (((k + 0) + 0) ≤ 600000 ∧ ((j + 0) + 0) ≤ 7302250) ∧ (0 : Int32) = 1))))
set_option maxHeartbeats 4000000 in
set_option maxRecDepth 100000 in
theorem tB_L_law_483 {x : GX} {b L : Nat} {xs : Nat → Int32} (f : Fx x cL_law RL 4 room_1) {r1 : Option Nat} {r2 : Option Nat} {i3 : Int32} {k j : Nat} {μ : Me} {Q : Int32 → Me → Prop} (hx : Lx x b L xs) {K18 : Int32 → Nat → Nat → Me → Prop} (hK18 : ∀ (a3 : Int32) (k j : Nat) (ν : Me), K18 a3 k j ν → G x 4 18 [(0, .ref b), (1, vr (gB x) r1), (2, vr (gB x) r2), (3, .int a3)] [] ν k j) (h : B_L_law_483 L xs r1 r2 i3 k j μ K18 Q) : G x 4 483 [(0, .ref b), (1, vr (gB x) r1), (2, vr (gB x) r2), (3, .int i3)] [] μ k j := by
  unfold B_L_law_483 at h
  refine g_aload_nQ f 1 dL_law_483 rfl rfl ?_
  refine g_aload_n f 0 dL_law_484 rfl rfl ?_
  refine g_iload_n f 3 dL_law_485 rfl rfl ?_
  refine g_iconst f 1 dL_law_486 kc_1 ?_
  refine g_iadd f dL_law_487 ?_
  refine g_sld f hx dL_law_488 h (fun h => ?_)
  obtain ⟨t105, e106, h107⟩ := h
  subst e106
  have h := h107
  obtain ⟨v108, h⟩ := h
  obtain ⟨⟨c111, c111b⟩, h⟩ := h
  refine g_callV f mk_L_38 v108 (c_X10_fault h) dL_law_489 rfl rfl (Nat.le_of_ble_eq_true rfl) (rm_okL (by decide) (by decide)) ⟨c111, c111b⟩ (kI fun r112 μ109 x110 h => ?_)
  refine g_aload_nQ f 2 dL_law_492 rfl rfl ?_
  refine g_aload_n f 0 dL_law_493 rfl rfl ?_
  refine g_iload_n f 3 dL_law_494 rfl rfl ?_
  refine g_iconst f 1 dL_law_495 kc_1 ?_
  refine g_iadd f dL_law_496 ?_
  refine g_sld f hx dL_law_497 h (fun h => ?_)
  obtain ⟨t113, e114, h115⟩ := h
  subst e114
  have h := h115
  obtain ⟨v116, h⟩ := h
  obtain ⟨⟨c119, c119b⟩, h⟩ := h
  refine g_callV f mk_L_41 v116 (c_X11_fault h) dL_law_498 rfl rfl (Nat.le_of_ble_eq_true rfl) (rm_okL (by decide) (by decide)) ⟨c119, c119b⟩ (kI fun r120 μ117 x118 h => ?_)
  refine g_ic_eq f 1814 dL_law_501 rfl h (fun h => ?_) (fun h => ?_)
  · exact h_sub [0, 1, 2, 3] rfl (tB_L_law_1814 f hx hK18 h)
  · refine g_iconst f 0 dL_law_504 kc_0 ?_
    obtain ⟨⟨c121, c121b⟩, h⟩ := h
    exact g_lawret f hx c121 c121b rfl dL_law_505 h
def B_L_law_506 (L : Nat) (xs : Nat → Int32) (r1 : Option Nat) (r2 : Option Nat) (i3 : Int32) (k j : Nat) (μ : Me) (K18 : Int32 → Nat → Nat → Me → Prop) (Q : Int32 → Me → Prop) : Prop := vp_in (i3 + 1) L ∧ ∃ t123, r1 = some t123 ∧ mok μ t123 10 ∧ (k + 0 ≤ 600000 ∧ j + 0 ≤ 7302250) ∧ S_X10_by t123 (xs (i3 + 1).toNatClampNeg) μ (fun r130 μ127 => vp_in (i3 + 1) L ∧ ∃ t131, r2 = some t131 ∧ mok μ127 t131 11 ∧ ((k + 0) + 0 ≤ 600000 ∧ (j + 0) + 0 ≤ 7302250) ∧ S_X11_by t131 (xs (i3 + 1).toNatClampNeg) μ127 (fun r138 μ135 => ((r130 = r138 → B_L_law_1814 L xs (some t123) (some t131) i3 ((k + 0) + 0) ((j + 0) + 0) μ135 K18 Q) ∧ (¬ r130 = r138 → (((k + 0) + 0) ≤ 600000 ∧ ((j + 0) + 0) ≤ 7302250) ∧ (0 : Int32) = 1))))
set_option maxHeartbeats 4000000 in
set_option maxRecDepth 100000 in
theorem tB_L_law_506 {x : GX} {b L : Nat} {xs : Nat → Int32} (f : Fx x cL_law RL 4 room_1) {r1 : Option Nat} {r2 : Option Nat} {i3 : Int32} {k j : Nat} {μ : Me} {Q : Int32 → Me → Prop} (hx : Lx x b L xs) {K18 : Int32 → Nat → Nat → Me → Prop} (hK18 : ∀ (a3 : Int32) (k j : Nat) (ν : Me), K18 a3 k j ν → G x 4 18 [(0, .ref b), (1, vr (gB x) r1), (2, vr (gB x) r2), (3, .int a3)] [] ν k j) (h : B_L_law_506 L xs r1 r2 i3 k j μ K18 Q) : G x 4 506 [(0, .ref b), (1, vr (gB x) r1), (2, vr (gB x) r2), (3, .int i3)] [] μ k j := by
  unfold B_L_law_506 at h
  refine g_aload_nQ f 1 dL_law_506 rfl rfl ?_
  refine g_aload_n f 0 dL_law_507 rfl rfl ?_
  refine g_iload_n f 3 dL_law_508 rfl rfl ?_
  refine g_iconst f 1 dL_law_509 kc_1 ?_
  refine g_iadd f dL_law_510 ?_
  refine g_sld f hx dL_law_511 h (fun h => ?_)
  obtain ⟨t123, e124, h125⟩ := h
  subst e124
  have h := h125
  obtain ⟨v126, h⟩ := h
  obtain ⟨⟨c129, c129b⟩, h⟩ := h
  refine g_callV f mk_L_42 v126 (c_X10_by h) dL_law_512 rfl rfl (Nat.le_of_ble_eq_true rfl) (rm_okL (by decide) (by decide)) ⟨c129, c129b⟩ (kI fun r130 μ127 x128 h => ?_)
  refine g_aload_nQ f 2 dL_law_515 rfl rfl ?_
  refine g_aload_n f 0 dL_law_516 rfl rfl ?_
  refine g_iload_n f 3 dL_law_517 rfl rfl ?_
  refine g_iconst f 1 dL_law_518 kc_1 ?_
  refine g_iadd f dL_law_519 ?_
  refine g_sld f hx dL_law_520 h (fun h => ?_)
  obtain ⟨t131, e132, h133⟩ := h
  subst e132
  have h := h133
  obtain ⟨v134, h⟩ := h
  obtain ⟨⟨c137, c137b⟩, h⟩ := h
  refine g_callV f mk_L_46 v134 (c_X11_by h) dL_law_521 rfl rfl (Nat.le_of_ble_eq_true rfl) (rm_okL (by decide) (by decide)) ⟨c137, c137b⟩ (kI fun r138 μ135 x136 h => ?_)
  refine g_ic_eq f 1814 dL_law_524 rfl h (fun h => ?_) (fun h => ?_)
  · exact h_sub [0, 1, 2, 3] rfl (tB_L_law_1814 f hx hK18 h)
  · refine g_iconst f 0 dL_law_527 kc_0 ?_
    obtain ⟨⟨c139, c139b⟩, h⟩ := h
    exact g_lawret f hx c139 c139b rfl dL_law_528 h
def B_L_law_529 (L : Nat) (xs : Nat → Int32) (r1 : Option Nat) (r2 : Option Nat) (i3 : Int32) (k j : Nat) (μ : Me) (K18 : Int32 → Nat → Nat → Me → Prop) (Q : Int32 → Me → Prop) : Prop := vp_in (i3 + 1) L ∧ ∃ t141, r1 = some t141 ∧ mok μ t141 10 ∧ (k + 0 ≤ 600000 ∧ j + 0 ≤ 7302250) ∧ S_X10_ring t141 (xs (i3 + 1).toNatClampNeg) μ (fun r148 μ145 => vp_in (i3 + 1) L ∧ ∃ t149, r2 = some t149 ∧ mok μ145 t149 11 ∧ ((k + 0) + 0 ≤ 600000 ∧ (j + 0) + 0 ≤ 7302250) ∧ S_X11_ring t149 (xs (i3 + 1).toNatClampNeg) μ145 (fun r156 μ153 => ((r148 = r156 → B_L_law_1814 L xs (some t141) (some t149) i3 ((k + 0) + 0) ((j + 0) + 0) μ153 K18 Q) ∧ (¬ r148 = r156 → (((k + 0) + 0) ≤ 600000 ∧ ((j + 0) + 0) ≤ 7302250) ∧ (0 : Int32) = 1))))
set_option maxHeartbeats 4000000 in
set_option maxRecDepth 100000 in
theorem tB_L_law_529 {x : GX} {b L : Nat} {xs : Nat → Int32} (f : Fx x cL_law RL 4 room_1) {r1 : Option Nat} {r2 : Option Nat} {i3 : Int32} {k j : Nat} {μ : Me} {Q : Int32 → Me → Prop} (hx : Lx x b L xs) {K18 : Int32 → Nat → Nat → Me → Prop} (hK18 : ∀ (a3 : Int32) (k j : Nat) (ν : Me), K18 a3 k j ν → G x 4 18 [(0, .ref b), (1, vr (gB x) r1), (2, vr (gB x) r2), (3, .int a3)] [] ν k j) (h : B_L_law_529 L xs r1 r2 i3 k j μ K18 Q) : G x 4 529 [(0, .ref b), (1, vr (gB x) r1), (2, vr (gB x) r2), (3, .int i3)] [] μ k j := by
  unfold B_L_law_529 at h
  refine g_aload_nQ f 1 dL_law_529 rfl rfl ?_
  refine g_aload_n f 0 dL_law_530 rfl rfl ?_
  refine g_iload_n f 3 dL_law_531 rfl rfl ?_
  refine g_iconst f 1 dL_law_532 kc_1 ?_
  refine g_iadd f dL_law_533 ?_
  refine g_sld f hx dL_law_534 h (fun h => ?_)
  obtain ⟨t141, e142, h143⟩ := h
  subst e142
  have h := h143
  obtain ⟨v144, h⟩ := h
  obtain ⟨⟨c147, c147b⟩, h⟩ := h
  refine g_callV f mk_L_47 v144 (c_X10_ring h) dL_law_535 rfl rfl (Nat.le_of_ble_eq_true rfl) (rm_okL (by decide) (by decide)) ⟨c147, c147b⟩ (kI fun r148 μ145 x146 h => ?_)
  refine g_aload_nQ f 2 dL_law_538 rfl rfl ?_
  refine g_aload_n f 0 dL_law_539 rfl rfl ?_
  refine g_iload_n f 3 dL_law_540 rfl rfl ?_
  refine g_iconst f 1 dL_law_541 kc_1 ?_
  refine g_iadd f dL_law_542 ?_
  refine g_sld f hx dL_law_543 h (fun h => ?_)
  obtain ⟨t149, e150, h151⟩ := h
  subst e150
  have h := h151
  obtain ⟨v152, h⟩ := h
  obtain ⟨⟨c155, c155b⟩, h⟩ := h
  refine g_callV f mk_L_50 v152 (c_X11_ring h) dL_law_544 rfl rfl (Nat.le_of_ble_eq_true rfl) (rm_okL (by decide) (by decide)) ⟨c155, c155b⟩ (kI fun r156 μ153 x154 h => ?_)
  refine g_ic_eq f 1814 dL_law_547 rfl h (fun h => ?_) (fun h => ?_)
  · exact h_sub [0, 1, 2, 3] rfl (tB_L_law_1814 f hx hK18 h)
  · refine g_iconst f 0 dL_law_550 kc_0 ?_
    obtain ⟨⟨c157, c157b⟩, h⟩ := h
    exact g_lawret f hx c157 c157b rfl dL_law_551 h
def B_L_law_552 (L : Nat) (xs : Nat → Int32) (r1 : Option Nat) (r2 : Option Nat) (i3 : Int32) (k j : Nat) (μ : Me) (K18 : Int32 → Nat → Nat → Me → Prop) (Q : Int32 → Me → Prop) : Prop := vp_in (i3 + 1) L ∧ vp_in (i3 + 2) L ∧ ∃ t159, r1 = some t159 ∧ mok μ t159 10 ∧ (k + 0 ≤ 600000 ∧ j + 0 ≤ 7302250) ∧ S_X10_due t159 (xs (i3 + 1).toNatClampNeg) (xs (i3 + 2).toNatClampNeg) μ (fun r166 μ163 => vp_in (i3 + 1) L ∧ vp_in (i3 + 2) L ∧ ∃ t167, r2 = some t167 ∧ mok μ163 t167 11 ∧ ((k + 0) + 0 ≤ 600000 ∧ (j + 0) + 0 ≤ 7302250) ∧ S_X11_due t167 (xs (i3 + 1).toNatClampNeg) (xs (i3 + 2).toNatClampNeg) μ163 (fun r174 μ171 => ((r166 = r174 → B_L_law_1814 L xs (some t159) (some t167) i3 ((k + 0) + 0) ((j + 0) + 0) μ171 K18 Q) ∧ (¬ r166 = r174 → (((k + 0) + 0) ≤ 600000 ∧ ((j + 0) + 0) ≤ 7302250) ∧ (0 : Int32) = 1))))
set_option maxHeartbeats 4000000 in
set_option maxRecDepth 100000 in
theorem tB_L_law_552 {x : GX} {b L : Nat} {xs : Nat → Int32} (f : Fx x cL_law RL 4 room_1) {r1 : Option Nat} {r2 : Option Nat} {i3 : Int32} {k j : Nat} {μ : Me} {Q : Int32 → Me → Prop} (hx : Lx x b L xs) {K18 : Int32 → Nat → Nat → Me → Prop} (hK18 : ∀ (a3 : Int32) (k j : Nat) (ν : Me), K18 a3 k j ν → G x 4 18 [(0, .ref b), (1, vr (gB x) r1), (2, vr (gB x) r2), (3, .int a3)] [] ν k j) (h : B_L_law_552 L xs r1 r2 i3 k j μ K18 Q) : G x 4 552 [(0, .ref b), (1, vr (gB x) r1), (2, vr (gB x) r2), (3, .int i3)] [] μ k j := by
  unfold B_L_law_552 at h
  refine g_aload_nQ f 1 dL_law_552 rfl rfl ?_
  refine g_aload_n f 0 dL_law_553 rfl rfl ?_
  refine g_iload_n f 3 dL_law_554 rfl rfl ?_
  refine g_iconst f 1 dL_law_555 kc_1 ?_
  refine g_iadd f dL_law_556 ?_
  refine g_sld f hx dL_law_557 h (fun h => ?_)
  refine g_aload_n f 0 dL_law_558 rfl rfl ?_
  refine g_iload_n f 3 dL_law_559 rfl rfl ?_
  refine g_iconst f 2 dL_law_560 kc_2 ?_
  refine g_iadd f dL_law_561 ?_
  refine g_sld f hx dL_law_562 h (fun h => ?_)
  obtain ⟨t159, e160, h161⟩ := h
  subst e160
  have h := h161
  obtain ⟨v162, h⟩ := h
  obtain ⟨⟨c165, c165b⟩, h⟩ := h
  refine g_callV f mk_L_51 v162 (c_X10_due h) dL_law_563 rfl rfl (Nat.le_of_ble_eq_true rfl) (rm_okL (by decide) (by decide)) ⟨c165, c165b⟩ (kI fun r166 μ163 x164 h => ?_)
  refine g_aload_nQ f 2 dL_law_566 rfl rfl ?_
  refine g_aload_n f 0 dL_law_567 rfl rfl ?_
  refine g_iload_n f 3 dL_law_568 rfl rfl ?_
  refine g_iconst f 1 dL_law_569 kc_1 ?_
  refine g_iadd f dL_law_570 ?_
  refine g_sld f hx dL_law_571 h (fun h => ?_)
  refine g_aload_n f 0 dL_law_572 rfl rfl ?_
  refine g_iload_n f 3 dL_law_573 rfl rfl ?_
  refine g_iconst f 2 dL_law_574 kc_2 ?_
  refine g_iadd f dL_law_575 ?_
  refine g_sld f hx dL_law_576 h (fun h => ?_)
  obtain ⟨t167, e168, h169⟩ := h
  subst e168
  have h := h169
  obtain ⟨v170, h⟩ := h
  obtain ⟨⟨c173, c173b⟩, h⟩ := h
  refine g_callV f mk_L_55 v170 (c_X11_due h) dL_law_577 rfl rfl (Nat.le_of_ble_eq_true rfl) (rm_okL (by decide) (by decide)) ⟨c173, c173b⟩ (kI fun r174 μ171 x172 h => ?_)
  refine g_ic_eq f 1814 dL_law_580 rfl h (fun h => ?_) (fun h => ?_)
  · exact h_sub [0, 1, 2, 3] rfl (tB_L_law_1814 f hx hK18 h)
  · refine g_iconst f 0 dL_law_583 kc_0 ?_
    obtain ⟨⟨c175, c175b⟩, h⟩ := h
    exact g_lawret f hx c175 c175b rfl dL_law_584 h
def B_L_law_585 (L : Nat) (xs : Nat → Int32) (r1 : Option Nat) (r2 : Option Nat) (i3 : Int32) (k j : Nat) (μ : Me) (K18 : Int32 → Nat → Nat → Me → Prop) (Q : Int32 → Me → Prop) : Prop := vp_in (i3 + 1) L ∧ ∃ t177, r1 = some t177 ∧ mok μ t177 10 ∧ (k + 0 ≤ 600000 ∧ j + 0 ≤ 7302250) ∧ S_X10_bed t177 (xs (i3 + 1).toNatClampNeg) μ (fun r184 μ181 => vp_in (i3 + 1) L ∧ ∃ t185, r2 = some t185 ∧ mok μ181 t185 11 ∧ ((k + 0) + 0 ≤ 600000 ∧ (j + 0) + 0 ≤ 7302250) ∧ S_X11_bed t185 (xs (i3 + 1).toNatClampNeg) μ181 (fun r192 μ189 => ((r184 = r192 → B_L_law_1814 L xs (some t177) (some t185) i3 ((k + 0) + 0) ((j + 0) + 0) μ189 K18 Q) ∧ (¬ r184 = r192 → (((k + 0) + 0) ≤ 600000 ∧ ((j + 0) + 0) ≤ 7302250) ∧ (0 : Int32) = 1))))
set_option maxHeartbeats 4000000 in
set_option maxRecDepth 100000 in
theorem tB_L_law_585 {x : GX} {b L : Nat} {xs : Nat → Int32} (f : Fx x cL_law RL 4 room_1) {r1 : Option Nat} {r2 : Option Nat} {i3 : Int32} {k j : Nat} {μ : Me} {Q : Int32 → Me → Prop} (hx : Lx x b L xs) {K18 : Int32 → Nat → Nat → Me → Prop} (hK18 : ∀ (a3 : Int32) (k j : Nat) (ν : Me), K18 a3 k j ν → G x 4 18 [(0, .ref b), (1, vr (gB x) r1), (2, vr (gB x) r2), (3, .int a3)] [] ν k j) (h : B_L_law_585 L xs r1 r2 i3 k j μ K18 Q) : G x 4 585 [(0, .ref b), (1, vr (gB x) r1), (2, vr (gB x) r2), (3, .int i3)] [] μ k j := by
  unfold B_L_law_585 at h
  refine g_aload_nQ f 1 dL_law_585 rfl rfl ?_
  refine g_aload_n f 0 dL_law_586 rfl rfl ?_
  refine g_iload_n f 3 dL_law_587 rfl rfl ?_
  refine g_iconst f 1 dL_law_588 kc_1 ?_
  refine g_iadd f dL_law_589 ?_
  refine g_sld f hx dL_law_590 h (fun h => ?_)
  obtain ⟨t177, e178, h179⟩ := h
  subst e178
  have h := h179
  obtain ⟨v180, h⟩ := h
  obtain ⟨⟨c183, c183b⟩, h⟩ := h
  refine g_callV f mk_L_56 v180 (c_X10_bed h) dL_law_591 rfl rfl (Nat.le_of_ble_eq_true rfl) (rm_okL (by decide) (by decide)) ⟨c183, c183b⟩ (kI fun r184 μ181 x182 h => ?_)
  refine g_aload_nQ f 2 dL_law_594 rfl rfl ?_
  refine g_aload_n f 0 dL_law_595 rfl rfl ?_
  refine g_iload_n f 3 dL_law_596 rfl rfl ?_
  refine g_iconst f 1 dL_law_597 kc_1 ?_
  refine g_iadd f dL_law_598 ?_
  refine g_sld f hx dL_law_599 h (fun h => ?_)
  obtain ⟨t185, e186, h187⟩ := h
  subst e186
  have h := h187
  obtain ⟨v188, h⟩ := h
  obtain ⟨⟨c191, c191b⟩, h⟩ := h
  refine g_callV f mk_L_59 v188 (c_X11_bed h) dL_law_600 rfl rfl (Nat.le_of_ble_eq_true rfl) (rm_okL (by decide) (by decide)) ⟨c191, c191b⟩ (kI fun r192 μ189 x190 h => ?_)
  refine g_ic_eq f 1814 dL_law_603 rfl h (fun h => ?_) (fun h => ?_)
  · exact h_sub [0, 1, 2, 3] rfl (tB_L_law_1814 f hx hK18 h)
  · refine g_iconst f 0 dL_law_606 kc_0 ?_
    obtain ⟨⟨c193, c193b⟩, h⟩ := h
    exact g_lawret f hx c193 c193b rfl dL_law_607 h
def B_L_law_608 (L : Nat) (xs : Nat → Int32) (r1 : Option Nat) (r2 : Option Nat) (i3 : Int32) (k j : Nat) (μ : Me) (K18 : Int32 → Nat → Nat → Me → Prop) (Q : Int32 → Me → Prop) : Prop := vp_in (i3 + 1) L ∧ ∃ t195, r1 = some t195 ∧ mok μ t195 10 ∧ (k + 0 ≤ 600000 ∧ j + 0 ≤ 7302250) ∧ S_X10_up t195 (xs (i3 + 1).toNatClampNeg) μ (fun r202 μ199 => vp_in (i3 + 1) L ∧ ∃ t203, r2 = some t203 ∧ mok μ199 t203 11 ∧ ((k + 0) + 0 ≤ 600000 ∧ (j + 0) + 0 ≤ 7302250) ∧ S_X11_up t203 (xs (i3 + 1).toNatClampNeg) μ199 (fun r210 μ207 => ((r202 = r210 → B_L_law_1814 L xs (some t195) (some t203) i3 ((k + 0) + 0) ((j + 0) + 0) μ207 K18 Q) ∧ (¬ r202 = r210 → (((k + 0) + 0) ≤ 600000 ∧ ((j + 0) + 0) ≤ 7302250) ∧ (0 : Int32) = 1))))
set_option maxHeartbeats 4000000 in
set_option maxRecDepth 100000 in
theorem tB_L_law_608 {x : GX} {b L : Nat} {xs : Nat → Int32} (f : Fx x cL_law RL 4 room_1) {r1 : Option Nat} {r2 : Option Nat} {i3 : Int32} {k j : Nat} {μ : Me} {Q : Int32 → Me → Prop} (hx : Lx x b L xs) {K18 : Int32 → Nat → Nat → Me → Prop} (hK18 : ∀ (a3 : Int32) (k j : Nat) (ν : Me), K18 a3 k j ν → G x 4 18 [(0, .ref b), (1, vr (gB x) r1), (2, vr (gB x) r2), (3, .int a3)] [] ν k j) (h : B_L_law_608 L xs r1 r2 i3 k j μ K18 Q) : G x 4 608 [(0, .ref b), (1, vr (gB x) r1), (2, vr (gB x) r2), (3, .int i3)] [] μ k j := by
  unfold B_L_law_608 at h
  refine g_aload_nQ f 1 dL_law_608 rfl rfl ?_
  refine g_aload_n f 0 dL_law_609 rfl rfl ?_
  refine g_iload_n f 3 dL_law_610 rfl rfl ?_
  refine g_iconst f 1 dL_law_611 kc_1 ?_
  refine g_iadd f dL_law_612 ?_
  refine g_sld f hx dL_law_613 h (fun h => ?_)
  obtain ⟨t195, e196, h197⟩ := h
  subst e196
  have h := h197
  obtain ⟨v198, h⟩ := h
  obtain ⟨⟨c201, c201b⟩, h⟩ := h
  refine g_callV f mk_L_60 v198 (c_X10_up h) dL_law_614 rfl rfl (Nat.le_of_ble_eq_true rfl) (rm_okL (by decide) (by decide)) ⟨c201, c201b⟩ (kI fun r202 μ199 x200 h => ?_)
  refine g_aload_nQ f 2 dL_law_617 rfl rfl ?_
  refine g_aload_n f 0 dL_law_618 rfl rfl ?_
  refine g_iload_n f 3 dL_law_619 rfl rfl ?_
  refine g_iconst f 1 dL_law_620 kc_1 ?_
  refine g_iadd f dL_law_621 ?_
  refine g_sld f hx dL_law_622 h (fun h => ?_)
  obtain ⟨t203, e204, h205⟩ := h
  subst e204
  have h := h205
  obtain ⟨v206, h⟩ := h
  obtain ⟨⟨c209, c209b⟩, h⟩ := h
  refine g_callV f mk_L_63 v206 (c_X11_up h) dL_law_623 rfl rfl (Nat.le_of_ble_eq_true rfl) (rm_okL (by decide) (by decide)) ⟨c209, c209b⟩ (kI fun r210 μ207 x208 h => ?_)
  refine g_ic_eq f 1814 dL_law_626 rfl h (fun h => ?_) (fun h => ?_)
  · exact h_sub [0, 1, 2, 3] rfl (tB_L_law_1814 f hx hK18 h)
  · refine g_iconst f 0 dL_law_629 kc_0 ?_
    obtain ⟨⟨c211, c211b⟩, h⟩ := h
    exact g_lawret f hx c211 c211b rfl dL_law_630 h
def B_L_law_631 (L : Nat) (xs : Nat → Int32) (r1 : Option Nat) (r2 : Option Nat) (i3 : Int32) (k j : Nat) (μ : Me) (K18 : Int32 → Nat → Nat → Me → Prop) (Q : Int32 → Me → Prop) : Prop := vp_in (i3 + 1) L ∧ ∃ t213, r1 = some t213 ∧ mok μ t213 10 ∧ (k + 0 ≤ 600000 ∧ j + 0 ≤ 7302250) ∧ S_X10_day t213 (xs (i3 + 1).toNatClampNeg) μ (fun r220 μ217 => vp_in (i3 + 1) L ∧ ∃ t221, r2 = some t221 ∧ mok μ217 t221 11 ∧ ((k + 0) + 0 ≤ 600000 ∧ (j + 0) + 0 ≤ 7302250) ∧ S_X11_day t221 (xs (i3 + 1).toNatClampNeg) μ217 (fun r228 μ225 => ((r220 = r228 → B_L_law_1814 L xs (some t213) (some t221) i3 ((k + 0) + 0) ((j + 0) + 0) μ225 K18 Q) ∧ (¬ r220 = r228 → (((k + 0) + 0) ≤ 600000 ∧ ((j + 0) + 0) ≤ 7302250) ∧ (0 : Int32) = 1))))
set_option maxHeartbeats 4000000 in
set_option maxRecDepth 100000 in
theorem tB_L_law_631 {x : GX} {b L : Nat} {xs : Nat → Int32} (f : Fx x cL_law RL 4 room_1) {r1 : Option Nat} {r2 : Option Nat} {i3 : Int32} {k j : Nat} {μ : Me} {Q : Int32 → Me → Prop} (hx : Lx x b L xs) {K18 : Int32 → Nat → Nat → Me → Prop} (hK18 : ∀ (a3 : Int32) (k j : Nat) (ν : Me), K18 a3 k j ν → G x 4 18 [(0, .ref b), (1, vr (gB x) r1), (2, vr (gB x) r2), (3, .int a3)] [] ν k j) (h : B_L_law_631 L xs r1 r2 i3 k j μ K18 Q) : G x 4 631 [(0, .ref b), (1, vr (gB x) r1), (2, vr (gB x) r2), (3, .int i3)] [] μ k j := by
  unfold B_L_law_631 at h
  refine g_aload_nQ f 1 dL_law_631 rfl rfl ?_
  refine g_aload_n f 0 dL_law_632 rfl rfl ?_
  refine g_iload_n f 3 dL_law_633 rfl rfl ?_
  refine g_iconst f 1 dL_law_634 kc_1 ?_
  refine g_iadd f dL_law_635 ?_
  refine g_sld f hx dL_law_636 h (fun h => ?_)
  obtain ⟨t213, e214, h215⟩ := h
  subst e214
  have h := h215
  obtain ⟨v216, h⟩ := h
  obtain ⟨⟨c219, c219b⟩, h⟩ := h
  refine g_callV f mk_L_64 v216 (c_X10_day h) dL_law_637 rfl rfl (Nat.le_of_ble_eq_true rfl) (rm_okL (by decide) (by decide)) ⟨c219, c219b⟩ (kI fun r220 μ217 x218 h => ?_)
  refine g_aload_nQ f 2 dL_law_640 rfl rfl ?_
  refine g_aload_n f 0 dL_law_641 rfl rfl ?_
  refine g_iload_n f 3 dL_law_642 rfl rfl ?_
  refine g_iconst f 1 dL_law_643 kc_1 ?_
  refine g_iadd f dL_law_644 ?_
  refine g_sld f hx dL_law_645 h (fun h => ?_)
  obtain ⟨t221, e222, h223⟩ := h
  subst e222
  have h := h223
  obtain ⟨v224, h⟩ := h
  obtain ⟨⟨c227, c227b⟩, h⟩ := h
  refine g_callV f mk_L_67 v224 (c_X11_day h) dL_law_646 rfl rfl (Nat.le_of_ble_eq_true rfl) (rm_okL (by decide) (by decide)) ⟨c227, c227b⟩ (kI fun r228 μ225 x226 h => ?_)
  refine g_ic_eq f 1814 dL_law_649 rfl h (fun h => ?_) (fun h => ?_)
  · exact h_sub [0, 1, 2, 3] rfl (tB_L_law_1814 f hx hK18 h)
  · refine g_iconst f 0 dL_law_652 kc_0 ?_
    obtain ⟨⟨c229, c229b⟩, h⟩ := h
    exact g_lawret f hx c229 c229b rfl dL_law_653 h
def B_L_law_654 (L : Nat) (xs : Nat → Int32) (r1 : Option Nat) (r2 : Option Nat) (i3 : Int32) (k j : Nat) (μ : Me) (K18 : Int32 → Nat → Nat → Me → Prop) (Q : Int32 → Me → Prop) : Prop := vp_in (i3 + 1) L ∧ ∃ t231, r1 = some t231 ∧ mok μ t231 10 ∧ (k + 0 ≤ 600000 ∧ j + 0 ≤ 7302250) ∧ S_X10_played t231 (xs (i3 + 1).toNatClampNeg) μ (fun r238 μ235 => vp_in (i3 + 1) L ∧ ∃ t239, r2 = some t239 ∧ mok μ235 t239 11 ∧ ((k + 0) + 0 ≤ 600000 ∧ (j + 0) + 0 ≤ 7302250) ∧ S_X11_played t239 (xs (i3 + 1).toNatClampNeg) μ235 (fun r246 μ243 => ((r238 = r246 → B_L_law_1814 L xs (some t231) (some t239) i3 ((k + 0) + 0) ((j + 0) + 0) μ243 K18 Q) ∧ (¬ r238 = r246 → (((k + 0) + 0) ≤ 600000 ∧ ((j + 0) + 0) ≤ 7302250) ∧ (0 : Int32) = 1))))
set_option maxHeartbeats 4000000 in
set_option maxRecDepth 100000 in
theorem tB_L_law_654 {x : GX} {b L : Nat} {xs : Nat → Int32} (f : Fx x cL_law RL 4 room_1) {r1 : Option Nat} {r2 : Option Nat} {i3 : Int32} {k j : Nat} {μ : Me} {Q : Int32 → Me → Prop} (hx : Lx x b L xs) {K18 : Int32 → Nat → Nat → Me → Prop} (hK18 : ∀ (a3 : Int32) (k j : Nat) (ν : Me), K18 a3 k j ν → G x 4 18 [(0, .ref b), (1, vr (gB x) r1), (2, vr (gB x) r2), (3, .int a3)] [] ν k j) (h : B_L_law_654 L xs r1 r2 i3 k j μ K18 Q) : G x 4 654 [(0, .ref b), (1, vr (gB x) r1), (2, vr (gB x) r2), (3, .int i3)] [] μ k j := by
  unfold B_L_law_654 at h
  refine g_aload_nQ f 1 dL_law_654 rfl rfl ?_
  refine g_aload_n f 0 dL_law_655 rfl rfl ?_
  refine g_iload_n f 3 dL_law_656 rfl rfl ?_
  refine g_iconst f 1 dL_law_657 kc_1 ?_
  refine g_iadd f dL_law_658 ?_
  refine g_sld f hx dL_law_659 h (fun h => ?_)
  obtain ⟨t231, e232, h233⟩ := h
  subst e232
  have h := h233
  obtain ⟨v234, h⟩ := h
  obtain ⟨⟨c237, c237b⟩, h⟩ := h
  refine g_callV f mk_L_68 v234 (c_X10_played h) dL_law_660 rfl rfl (Nat.le_of_ble_eq_true rfl) (rm_okL (by decide) (by decide)) ⟨c237, c237b⟩ (kI fun r238 μ235 x236 h => ?_)
  refine g_aload_nQ f 2 dL_law_663 rfl rfl ?_
  refine g_aload_n f 0 dL_law_664 rfl rfl ?_
  refine g_iload_n f 3 dL_law_665 rfl rfl ?_
  refine g_iconst f 1 dL_law_666 kc_1 ?_
  refine g_iadd f dL_law_667 ?_
  refine g_sld f hx dL_law_668 h (fun h => ?_)
  obtain ⟨t239, e240, h241⟩ := h
  subst e240
  have h := h241
  obtain ⟨v242, h⟩ := h
  obtain ⟨⟨c245, c245b⟩, h⟩ := h
  refine g_callV f mk_L_71 v242 (c_X11_played h) dL_law_669 rfl rfl (Nat.le_of_ble_eq_true rfl) (rm_okL (by decide) (by decide)) ⟨c245, c245b⟩ (kI fun r246 μ243 x244 h => ?_)
  refine g_ic_eq f 1814 dL_law_672 rfl h (fun h => ?_) (fun h => ?_)
  · exact h_sub [0, 1, 2, 3] rfl (tB_L_law_1814 f hx hK18 h)
  · refine g_iconst f 0 dL_law_675 kc_0 ?_
    obtain ⟨⟨c247, c247b⟩, h⟩ := h
    exact g_lawret f hx c247 c247b rfl dL_law_676 h
def B_L_law_677 (L : Nat) (xs : Nat → Int32) (r1 : Option Nat) (r2 : Option Nat) (i3 : Int32) (k j : Nat) (μ : Me) (K18 : Int32 → Nat → Nat → Me → Prop) (Q : Int32 → Me → Prop) : Prop := vp_in (i3 + 1) L ∧ vp_in (i3 + 2) L ∧ ∃ t249, r1 = some t249 ∧ mok μ t249 10 ∧ (k + 0 ≤ 600000 ∧ j + 0 ≤ 7302250) ∧ S_X10_years t249 (xs (i3 + 1).toNatClampNeg) (xs (i3 + 2).toNatClampNeg) μ (fun r256 μ253 => vp_in (i3 + 1) L ∧ vp_in (i3 + 2) L ∧ ∃ t257, r2 = some t257 ∧ mok μ253 t257 11 ∧ ((k + 0) + 0 ≤ 600000 ∧ (j + 0) + 0 ≤ 7302250) ∧ S_X11_years t257 (xs (i3 + 1).toNatClampNeg) (xs (i3 + 2).toNatClampNeg) μ253 (fun r264 μ261 => ((r256 = r264 → B_L_law_1814 L xs (some t249) (some t257) i3 ((k + 0) + 0) ((j + 0) + 0) μ261 K18 Q) ∧ (¬ r256 = r264 → (((k + 0) + 0) ≤ 600000 ∧ ((j + 0) + 0) ≤ 7302250) ∧ (0 : Int32) = 1))))
set_option maxHeartbeats 4000000 in
set_option maxRecDepth 100000 in
theorem tB_L_law_677 {x : GX} {b L : Nat} {xs : Nat → Int32} (f : Fx x cL_law RL 4 room_1) {r1 : Option Nat} {r2 : Option Nat} {i3 : Int32} {k j : Nat} {μ : Me} {Q : Int32 → Me → Prop} (hx : Lx x b L xs) {K18 : Int32 → Nat → Nat → Me → Prop} (hK18 : ∀ (a3 : Int32) (k j : Nat) (ν : Me), K18 a3 k j ν → G x 4 18 [(0, .ref b), (1, vr (gB x) r1), (2, vr (gB x) r2), (3, .int a3)] [] ν k j) (h : B_L_law_677 L xs r1 r2 i3 k j μ K18 Q) : G x 4 677 [(0, .ref b), (1, vr (gB x) r1), (2, vr (gB x) r2), (3, .int i3)] [] μ k j := by
  unfold B_L_law_677 at h
  refine g_aload_nQ f 1 dL_law_677 rfl rfl ?_
  refine g_aload_n f 0 dL_law_678 rfl rfl ?_
  refine g_iload_n f 3 dL_law_679 rfl rfl ?_
  refine g_iconst f 1 dL_law_680 kc_1 ?_
  refine g_iadd f dL_law_681 ?_
  refine g_sld f hx dL_law_682 h (fun h => ?_)
  refine g_aload_n f 0 dL_law_683 rfl rfl ?_
  refine g_iload_n f 3 dL_law_684 rfl rfl ?_
  refine g_iconst f 2 dL_law_685 kc_2 ?_
  refine g_iadd f dL_law_686 ?_
  refine g_sld f hx dL_law_687 h (fun h => ?_)
  obtain ⟨t249, e250, h251⟩ := h
  subst e250
  have h := h251
  obtain ⟨v252, h⟩ := h
  obtain ⟨⟨c255, c255b⟩, h⟩ := h
  refine g_callV f mk_L_72 v252 (c_X10_years h) dL_law_688 rfl rfl (Nat.le_of_ble_eq_true rfl) (rm_okL (by decide) (by decide)) ⟨c255, c255b⟩ (kI fun r256 μ253 x254 h => ?_)
  refine g_aload_nQ f 2 dL_law_691 rfl rfl ?_
  refine g_aload_n f 0 dL_law_692 rfl rfl ?_
  refine g_iload_n f 3 dL_law_693 rfl rfl ?_
  refine g_iconst f 1 dL_law_694 kc_1 ?_
  refine g_iadd f dL_law_695 ?_
  refine g_sld f hx dL_law_696 h (fun h => ?_)
  refine g_aload_n f 0 dL_law_697 rfl rfl ?_
  refine g_iload_n f 3 dL_law_698 rfl rfl ?_
  refine g_iconst f 2 dL_law_699 kc_2 ?_
  refine g_iadd f dL_law_700 ?_
  refine g_sld f hx dL_law_701 h (fun h => ?_)
  obtain ⟨t257, e258, h259⟩ := h
  subst e258
  have h := h259
  obtain ⟨v260, h⟩ := h
  obtain ⟨⟨c263, c263b⟩, h⟩ := h
  refine g_callV f mk_L_76 v260 (c_X11_years h) dL_law_702 rfl rfl (Nat.le_of_ble_eq_true rfl) (rm_okL (by decide) (by decide)) ⟨c263, c263b⟩ (kI fun r264 μ261 x262 h => ?_)
  refine g_ic_eq f 1814 dL_law_705 rfl h (fun h => ?_) (fun h => ?_)
  · exact h_sub [0, 1, 2, 3] rfl (tB_L_law_1814 f hx hK18 h)
  · refine g_iconst f 0 dL_law_708 kc_0 ?_
    obtain ⟨⟨c265, c265b⟩, h⟩ := h
    exact g_lawret f hx c265 c265b rfl dL_law_709 h
def B_L_law_710 (L : Nat) (xs : Nat → Int32) (r1 : Option Nat) (r2 : Option Nat) (i3 : Int32) (k j : Nat) (μ : Me) (K18 : Int32 → Nat → Nat → Me → Prop) (Q : Int32 → Me → Prop) : Prop := ∃ t267, r1 = some t267 ∧ mok μ t267 10 ∧ (k + 0 ≤ 600000 ∧ j + 0 ≤ 7302250) ∧ S_X10_undo t267 μ (fun r274 μ271 => ∃ t275, r2 = some t275 ∧ mok μ271 t275 11 ∧ ((k + 0) + 0 ≤ 600000 ∧ (j + 0) + 0 ≤ 7302250) ∧ S_X11_undo t275 μ271 (fun r282 μ279 => ((r274 = r282 → B_L_law_1814 L xs (some t267) (some t275) i3 ((k + 0) + 0) ((j + 0) + 0) μ279 K18 Q) ∧ (¬ r274 = r282 → (((k + 0) + 0) ≤ 600000 ∧ ((j + 0) + 0) ≤ 7302250) ∧ (0 : Int32) = 1))))
set_option maxHeartbeats 4000000 in
set_option maxRecDepth 100000 in
theorem tB_L_law_710 {x : GX} {b L : Nat} {xs : Nat → Int32} (f : Fx x cL_law RL 4 room_1) {r1 : Option Nat} {r2 : Option Nat} {i3 : Int32} {k j : Nat} {μ : Me} {Q : Int32 → Me → Prop} (hx : Lx x b L xs) {K18 : Int32 → Nat → Nat → Me → Prop} (hK18 : ∀ (a3 : Int32) (k j : Nat) (ν : Me), K18 a3 k j ν → G x 4 18 [(0, .ref b), (1, vr (gB x) r1), (2, vr (gB x) r2), (3, .int a3)] [] ν k j) (h : B_L_law_710 L xs r1 r2 i3 k j μ K18 Q) : G x 4 710 [(0, .ref b), (1, vr (gB x) r1), (2, vr (gB x) r2), (3, .int i3)] [] μ k j := by
  unfold B_L_law_710 at h
  refine g_aload_nQ f 1 dL_law_710 rfl rfl ?_
  obtain ⟨t267, e268, h269⟩ := h
  subst e268
  have h := h269
  obtain ⟨v270, h⟩ := h
  obtain ⟨⟨c273, c273b⟩, h⟩ := h
  refine g_callV f mk_L_77 v270 (c_X10_undo h) dL_law_711 rfl rfl (Nat.le_of_ble_eq_true rfl) (rm_okL (by decide) (by decide)) ⟨c273, c273b⟩ (kI fun r274 μ271 x272 h => ?_)
  refine g_aload_nQ f 2 dL_law_714 rfl rfl ?_
  obtain ⟨t275, e276, h277⟩ := h
  subst e276
  have h := h277
  obtain ⟨v278, h⟩ := h
  obtain ⟨⟨c281, c281b⟩, h⟩ := h
  refine g_callV f mk_L_80 v278 (c_X11_undo h) dL_law_715 rfl rfl (Nat.le_of_ble_eq_true rfl) (rm_okL (by decide) (by decide)) ⟨c281, c281b⟩ (kI fun r282 μ279 x280 h => ?_)
  refine g_ic_eq f 1814 dL_law_718 rfl h (fun h => ?_) (fun h => ?_)
  · exact h_sub [0, 1, 2, 3] rfl (tB_L_law_1814 f hx hK18 h)
  · refine g_iconst f 0 dL_law_721 kc_0 ?_
    obtain ⟨⟨c283, c283b⟩, h⟩ := h
    exact g_lawret f hx c283 c283b rfl dL_law_722 h
def B_L_law_723 (L : Nat) (xs : Nat → Int32) (r1 : Option Nat) (r2 : Option Nat) (i3 : Int32) (k j : Nat) (μ : Me) (K18 : Int32 → Nat → Nat → Me → Prop) (Q : Int32 → Me → Prop) : Prop := vp_in (i3 + 1) L ∧ vp_in (i3 + 2) L ∧ ∃ t285, r1 = some t285 ∧ mok μ t285 10 ∧ (k + 0 ≤ 600000 ∧ j + 0 ≤ 7302250) ∧ S_X10_of t285 (xs (i3 + 1).toNatClampNeg) (xs (i3 + 2).toNatClampNeg) μ (fun r292 μ289 => vp_in (i3 + 1) L ∧ vp_in (i3 + 2) L ∧ ∃ t293, r2 = some t293 ∧ mok μ289 t293 11 ∧ ((k + 0) + 0 ≤ 600000 ∧ (j + 0) + 0 ≤ 7302250) ∧ S_X11_of t293 (xs (i3 + 1).toNatClampNeg) (xs (i3 + 2).toNatClampNeg) μ289 (fun r300 μ297 => ((r292 = r300 → B_L_law_1814 L xs (some t285) (some t293) i3 ((k + 0) + 0) ((j + 0) + 0) μ297 K18 Q) ∧ (¬ r292 = r300 → (((k + 0) + 0) ≤ 600000 ∧ ((j + 0) + 0) ≤ 7302250) ∧ (0 : Int32) = 1))))
set_option maxHeartbeats 4000000 in
set_option maxRecDepth 100000 in
theorem tB_L_law_723 {x : GX} {b L : Nat} {xs : Nat → Int32} (f : Fx x cL_law RL 4 room_1) {r1 : Option Nat} {r2 : Option Nat} {i3 : Int32} {k j : Nat} {μ : Me} {Q : Int32 → Me → Prop} (hx : Lx x b L xs) {K18 : Int32 → Nat → Nat → Me → Prop} (hK18 : ∀ (a3 : Int32) (k j : Nat) (ν : Me), K18 a3 k j ν → G x 4 18 [(0, .ref b), (1, vr (gB x) r1), (2, vr (gB x) r2), (3, .int a3)] [] ν k j) (h : B_L_law_723 L xs r1 r2 i3 k j μ K18 Q) : G x 4 723 [(0, .ref b), (1, vr (gB x) r1), (2, vr (gB x) r2), (3, .int i3)] [] μ k j := by
  unfold B_L_law_723 at h
  refine g_aload_nQ f 1 dL_law_723 rfl rfl ?_
  refine g_aload_n f 0 dL_law_724 rfl rfl ?_
  refine g_iload_n f 3 dL_law_725 rfl rfl ?_
  refine g_iconst f 1 dL_law_726 kc_1 ?_
  refine g_iadd f dL_law_727 ?_
  refine g_sld f hx dL_law_728 h (fun h => ?_)
  refine g_aload_n f 0 dL_law_729 rfl rfl ?_
  refine g_iload_n f 3 dL_law_730 rfl rfl ?_
  refine g_iconst f 2 dL_law_731 kc_2 ?_
  refine g_iadd f dL_law_732 ?_
  refine g_sld f hx dL_law_733 h (fun h => ?_)
  obtain ⟨t285, e286, h287⟩ := h
  subst e286
  have h := h287
  obtain ⟨v288, h⟩ := h
  obtain ⟨⟨c291, c291b⟩, h⟩ := h
  refine g_callV f mk_L_81 v288 (c_X10_of h) dL_law_734 rfl rfl (Nat.le_of_ble_eq_true rfl) (rm_okL (by decide) (by decide)) ⟨c291, c291b⟩ (kI fun r292 μ289 x290 h => ?_)
  refine g_aload_nQ f 2 dL_law_737 rfl rfl ?_
  refine g_aload_n f 0 dL_law_738 rfl rfl ?_
  refine g_iload_n f 3 dL_law_739 rfl rfl ?_
  refine g_iconst f 1 dL_law_740 kc_1 ?_
  refine g_iadd f dL_law_741 ?_
  refine g_sld f hx dL_law_742 h (fun h => ?_)
  refine g_aload_n f 0 dL_law_743 rfl rfl ?_
  refine g_iload_n f 3 dL_law_744 rfl rfl ?_
  refine g_iconst f 2 dL_law_745 kc_2 ?_
  refine g_iadd f dL_law_746 ?_
  refine g_sld f hx dL_law_747 h (fun h => ?_)
  obtain ⟨t293, e294, h295⟩ := h
  subst e294
  have h := h295
  obtain ⟨v296, h⟩ := h
  obtain ⟨⟨c299, c299b⟩, h⟩ := h
  refine g_callV f mk_L_84 v296 (c_X11_of h) dL_law_748 rfl rfl (Nat.le_of_ble_eq_true rfl) (rm_okL (by decide) (by decide)) ⟨c299, c299b⟩ (kI fun r300 μ297 x298 h => ?_)
  refine g_ic_eq f 1814 dL_law_751 rfl h (fun h => ?_) (fun h => ?_)
  · exact h_sub [0, 1, 2, 3] rfl (tB_L_law_1814 f hx hK18 h)
  · refine g_iconst f 0 dL_law_754 kc_0 ?_
    obtain ⟨⟨c301, c301b⟩, h⟩ := h
    exact g_lawret f hx c301 c301b rfl dL_law_755 h
def B_L_law_756 (L : Nat) (xs : Nat → Int32) (r1 : Option Nat) (r2 : Option Nat) (i3 : Int32) (k j : Nat) (μ : Me) (K18 : Int32 → Nat → Nat → Me → Prop) (Q : Int32 → Me → Prop) : Prop := vp_in (i3 + 1) L ∧ ∃ t303, r1 = some t303 ∧ mok μ t303 10 ∧ (k + 0 ≤ 600000 ∧ j + 0 ≤ 7302250) ∧ S_X10_is t303 (xs (i3 + 1).toNatClampNeg) μ (fun r310 μ307 => vp_in (i3 + 1) L ∧ ∃ t311, r2 = some t311 ∧ mok μ307 t311 11 ∧ ((k + 0) + 0 ≤ 600000 ∧ (j + 0) + 0 ≤ 7302250) ∧ S_X11_is t311 (xs (i3 + 1).toNatClampNeg) μ307 (fun r318 μ315 => ((r310 = r318 → B_L_law_1814 L xs (some t303) (some t311) i3 ((k + 0) + 0) ((j + 0) + 0) μ315 K18 Q) ∧ (¬ r310 = r318 → (((k + 0) + 0) ≤ 600000 ∧ ((j + 0) + 0) ≤ 7302250) ∧ (0 : Int32) = 1))))
set_option maxHeartbeats 4000000 in
set_option maxRecDepth 100000 in
theorem tB_L_law_756 {x : GX} {b L : Nat} {xs : Nat → Int32} (f : Fx x cL_law RL 4 room_1) {r1 : Option Nat} {r2 : Option Nat} {i3 : Int32} {k j : Nat} {μ : Me} {Q : Int32 → Me → Prop} (hx : Lx x b L xs) {K18 : Int32 → Nat → Nat → Me → Prop} (hK18 : ∀ (a3 : Int32) (k j : Nat) (ν : Me), K18 a3 k j ν → G x 4 18 [(0, .ref b), (1, vr (gB x) r1), (2, vr (gB x) r2), (3, .int a3)] [] ν k j) (h : B_L_law_756 L xs r1 r2 i3 k j μ K18 Q) : G x 4 756 [(0, .ref b), (1, vr (gB x) r1), (2, vr (gB x) r2), (3, .int i3)] [] μ k j := by
  unfold B_L_law_756 at h
  refine g_aload_nQ f 1 dL_law_756 rfl rfl ?_
  refine g_aload_n f 0 dL_law_757 rfl rfl ?_
  refine g_iload_n f 3 dL_law_758 rfl rfl ?_
  refine g_iconst f 1 dL_law_759 kc_1 ?_
  refine g_iadd f dL_law_760 ?_
  refine g_sld f hx dL_law_761 h (fun h => ?_)
  obtain ⟨t303, e304, h305⟩ := h
  subst e304
  have h := h305
  obtain ⟨v306, h⟩ := h
  obtain ⟨⟨c309, c309b⟩, h⟩ := h
  refine g_callV f mk_L_85 v306 (c_X10_is h) dL_law_762 rfl rfl (Nat.le_of_ble_eq_true rfl) (rm_okL (by decide) (by decide)) ⟨c309, c309b⟩ (kI fun r310 μ307 x308 h => ?_)
  refine g_aload_nQ f 2 dL_law_765 rfl rfl ?_
  refine g_aload_n f 0 dL_law_766 rfl rfl ?_
  refine g_iload_n f 3 dL_law_767 rfl rfl ?_
  refine g_iconst f 1 dL_law_768 kc_1 ?_
  refine g_iadd f dL_law_769 ?_
  refine g_sld f hx dL_law_770 h (fun h => ?_)
  obtain ⟨t311, e312, h313⟩ := h
  subst e312
  have h := h313
  obtain ⟨v314, h⟩ := h
  obtain ⟨⟨c317, c317b⟩, h⟩ := h
  refine g_callV f mk_L_88 v314 (c_X11_is h) dL_law_771 rfl rfl (Nat.le_of_ble_eq_true rfl) (rm_okL (by decide) (by decide)) ⟨c317, c317b⟩ (kI fun r318 μ315 x316 h => ?_)
  refine g_ic_eq f 1814 dL_law_774 rfl h (fun h => ?_) (fun h => ?_)
  · exact h_sub [0, 1, 2, 3] rfl (tB_L_law_1814 f hx hK18 h)
  · refine g_iconst f 0 dL_law_777 kc_0 ?_
    obtain ⟨⟨c319, c319b⟩, h⟩ := h
    exact g_lawret f hx c319 c319b rfl dL_law_778 h
def B_L_law_779 (L : Nat) (xs : Nat → Int32) (r1 : Option Nat) (r2 : Option Nat) (i3 : Int32) (k j : Nat) (μ : Me) (K18 : Int32 → Nat → Nat → Me → Prop) (Q : Int32 → Me → Prop) : Prop := vp_in (i3 + 1) L ∧ vp_in (i3 + 2) L ∧ ∃ t321, r1 = some t321 ∧ mok μ t321 10 ∧ (k + 0 ≤ 600000 ∧ j + 0 ≤ 7302250) ∧ S_X10_book t321 (xs (i3 + 1).toNatClampNeg) (xs (i3 + 2).toNatClampNeg) μ (fun r328 μ325 => vp_in (i3 + 1) L ∧ vp_in (i3 + 2) L ∧ ∃ t329, r2 = some t329 ∧ mok μ325 t329 11 ∧ ((k + 0) + 0 ≤ 600000 ∧ (j + 0) + 0 ≤ 7302250) ∧ S_X11_book t329 (xs (i3 + 1).toNatClampNeg) (xs (i3 + 2).toNatClampNeg) μ325 (fun r336 μ333 => ((r328 = r336 → B_L_law_1814 L xs (some t321) (some t329) i3 ((k + 0) + 0) ((j + 0) + 0) μ333 K18 Q) ∧ (¬ r328 = r336 → (((k + 0) + 0) ≤ 600000 ∧ ((j + 0) + 0) ≤ 7302250) ∧ (0 : Int32) = 1))))
set_option maxHeartbeats 4000000 in
set_option maxRecDepth 100000 in
theorem tB_L_law_779 {x : GX} {b L : Nat} {xs : Nat → Int32} (f : Fx x cL_law RL 4 room_1) {r1 : Option Nat} {r2 : Option Nat} {i3 : Int32} {k j : Nat} {μ : Me} {Q : Int32 → Me → Prop} (hx : Lx x b L xs) {K18 : Int32 → Nat → Nat → Me → Prop} (hK18 : ∀ (a3 : Int32) (k j : Nat) (ν : Me), K18 a3 k j ν → G x 4 18 [(0, .ref b), (1, vr (gB x) r1), (2, vr (gB x) r2), (3, .int a3)] [] ν k j) (h : B_L_law_779 L xs r1 r2 i3 k j μ K18 Q) : G x 4 779 [(0, .ref b), (1, vr (gB x) r1), (2, vr (gB x) r2), (3, .int i3)] [] μ k j := by
  unfold B_L_law_779 at h
  refine g_aload_nQ f 1 dL_law_779 rfl rfl ?_
  refine g_aload_n f 0 dL_law_780 rfl rfl ?_
  refine g_iload_n f 3 dL_law_781 rfl rfl ?_
  refine g_iconst f 1 dL_law_782 kc_1 ?_
  refine g_iadd f dL_law_783 ?_
  refine g_sld f hx dL_law_784 h (fun h => ?_)
  refine g_aload_n f 0 dL_law_785 rfl rfl ?_
  refine g_iload_n f 3 dL_law_786 rfl rfl ?_
  refine g_iconst f 2 dL_law_787 kc_2 ?_
  refine g_iadd f dL_law_788 ?_
  refine g_sld f hx dL_law_789 h (fun h => ?_)
  obtain ⟨t321, e322, h323⟩ := h
  subst e322
  have h := h323
  obtain ⟨v324, h⟩ := h
  obtain ⟨⟨c327, c327b⟩, h⟩ := h
  refine g_callV f mk_L_89 v324 (c_X10_book h) dL_law_790 rfl rfl (Nat.le_of_ble_eq_true rfl) (rm_okL (by decide) (by decide)) ⟨c327, c327b⟩ (kI fun r328 μ325 x326 h => ?_)
  refine g_aload_nQ f 2 dL_law_793 rfl rfl ?_
  refine g_aload_n f 0 dL_law_794 rfl rfl ?_
  refine g_iload_n f 3 dL_law_795 rfl rfl ?_
  refine g_iconst f 1 dL_law_796 kc_1 ?_
  refine g_iadd f dL_law_797 ?_
  refine g_sld f hx dL_law_798 h (fun h => ?_)
  refine g_aload_n f 0 dL_law_799 rfl rfl ?_
  refine g_iload_n f 3 dL_law_800 rfl rfl ?_
  refine g_iconst f 2 dL_law_801 kc_2 ?_
  refine g_iadd f dL_law_802 ?_
  refine g_sld f hx dL_law_803 h (fun h => ?_)
  obtain ⟨t329, e330, h331⟩ := h
  subst e330
  have h := h331
  obtain ⟨v332, h⟩ := h
  obtain ⟨⟨c335, c335b⟩, h⟩ := h
  refine g_callV f mk_L_92 v332 (c_X11_book h) dL_law_804 rfl rfl (Nat.le_of_ble_eq_true rfl) (rm_okL (by decide) (by decide)) ⟨c335, c335b⟩ (kI fun r336 μ333 x334 h => ?_)
  refine g_ic_eq f 1814 dL_law_807 rfl h (fun h => ?_) (fun h => ?_)
  · exact h_sub [0, 1, 2, 3] rfl (tB_L_law_1814 f hx hK18 h)
  · refine g_iconst f 0 dL_law_810 kc_0 ?_
    obtain ⟨⟨c337, c337b⟩, h⟩ := h
    exact g_lawret f hx c337 c337b rfl dL_law_811 h
def B_L_law_812 (L : Nat) (xs : Nat → Int32) (r1 : Option Nat) (r2 : Option Nat) (i3 : Int32) (k j : Nat) (μ : Me) (K18 : Int32 → Nat → Nat → Me → Prop) (Q : Int32 → Me → Prop) : Prop := vp_in (i3 + 1) L ∧ vp_in (i3 + 2) L ∧ ∃ t339, r1 = some t339 ∧ mok μ t339 10 ∧ (k + 0 ≤ 600000 ∧ j + 0 ≤ 7302250) ∧ S_X10_foretold t339 (xs (i3 + 1).toNatClampNeg) (xs (i3 + 2).toNatClampNeg) μ (fun r346 μ343 => vp_in (i3 + 1) L ∧ vp_in (i3 + 2) L ∧ ∃ t347, r2 = some t347 ∧ mok μ343 t347 11 ∧ ((k + 0) + 0 ≤ 600000 ∧ (j + 0) + 0 ≤ 7302250) ∧ S_X11_foretold t347 (xs (i3 + 1).toNatClampNeg) (xs (i3 + 2).toNatClampNeg) μ343 (fun r354 μ351 => ((r346 = r354 → B_L_law_1814 L xs (some t339) (some t347) i3 ((k + 0) + 0) ((j + 0) + 0) μ351 K18 Q) ∧ (¬ r346 = r354 → (((k + 0) + 0) ≤ 600000 ∧ ((j + 0) + 0) ≤ 7302250) ∧ (0 : Int32) = 1))))
set_option maxHeartbeats 4000000 in
set_option maxRecDepth 100000 in
theorem tB_L_law_812 {x : GX} {b L : Nat} {xs : Nat → Int32} (f : Fx x cL_law RL 4 room_1) {r1 : Option Nat} {r2 : Option Nat} {i3 : Int32} {k j : Nat} {μ : Me} {Q : Int32 → Me → Prop} (hx : Lx x b L xs) {K18 : Int32 → Nat → Nat → Me → Prop} (hK18 : ∀ (a3 : Int32) (k j : Nat) (ν : Me), K18 a3 k j ν → G x 4 18 [(0, .ref b), (1, vr (gB x) r1), (2, vr (gB x) r2), (3, .int a3)] [] ν k j) (h : B_L_law_812 L xs r1 r2 i3 k j μ K18 Q) : G x 4 812 [(0, .ref b), (1, vr (gB x) r1), (2, vr (gB x) r2), (3, .int i3)] [] μ k j := by
  unfold B_L_law_812 at h
  refine g_aload_nQ f 1 dL_law_812 rfl rfl ?_
  refine g_aload_n f 0 dL_law_813 rfl rfl ?_
  refine g_iload_n f 3 dL_law_814 rfl rfl ?_
  refine g_iconst f 1 dL_law_815 kc_1 ?_
  refine g_iadd f dL_law_816 ?_
  refine g_sld f hx dL_law_817 h (fun h => ?_)
  refine g_aload_n f 0 dL_law_818 rfl rfl ?_
  refine g_iload_n f 3 dL_law_819 rfl rfl ?_
  refine g_iconst f 2 dL_law_820 kc_2 ?_
  refine g_iadd f dL_law_821 ?_
  refine g_sld f hx dL_law_822 h (fun h => ?_)
  obtain ⟨t339, e340, h341⟩ := h
  subst e340
  have h := h341
  obtain ⟨v342, h⟩ := h
  obtain ⟨⟨c345, c345b⟩, h⟩ := h
  refine g_callV f mk_L_93 v342 (c_X10_foretold h) dL_law_823 rfl rfl (Nat.le_of_ble_eq_true rfl) (rm_okL (by decide) (by decide)) ⟨c345, c345b⟩ (kI fun r346 μ343 x344 h => ?_)
  refine g_aload_nQ f 2 dL_law_826 rfl rfl ?_
  refine g_aload_n f 0 dL_law_827 rfl rfl ?_
  refine g_iload_n f 3 dL_law_828 rfl rfl ?_
  refine g_iconst f 1 dL_law_829 kc_1 ?_
  refine g_iadd f dL_law_830 ?_
  refine g_sld f hx dL_law_831 h (fun h => ?_)
  refine g_aload_n f 0 dL_law_832 rfl rfl ?_
  refine g_iload_n f 3 dL_law_833 rfl rfl ?_
  refine g_iconst f 2 dL_law_834 kc_2 ?_
  refine g_iadd f dL_law_835 ?_
  refine g_sld f hx dL_law_836 h (fun h => ?_)
  obtain ⟨t347, e348, h349⟩ := h
  subst e348
  have h := h349
  obtain ⟨v350, h⟩ := h
  obtain ⟨⟨c353, c353b⟩, h⟩ := h
  refine g_callV f mk_L_96 v350 (c_X11_foretold h) dL_law_837 rfl rfl (Nat.le_of_ble_eq_true rfl) (rm_okL (by decide) (by decide)) ⟨c353, c353b⟩ (kI fun r354 μ351 x352 h => ?_)
  refine g_ic_eq f 1814 dL_law_840 rfl h (fun h => ?_) (fun h => ?_)
  · exact h_sub [0, 1, 2, 3] rfl (tB_L_law_1814 f hx hK18 h)
  · refine g_iconst f 0 dL_law_843 kc_0 ?_
    obtain ⟨⟨c355, c355b⟩, h⟩ := h
    exact g_lawret f hx c355 c355b rfl dL_law_844 h
def B_L_law_845 (L : Nat) (xs : Nat → Int32) (r1 : Option Nat) (r2 : Option Nat) (i3 : Int32) (k j : Nat) (μ : Me) (K18 : Int32 → Nat → Nat → Me → Prop) (Q : Int32 → Me → Prop) : Prop := vp_in (i3 + 1) L ∧ ∃ t357, r1 = some t357 ∧ mok μ t357 10 ∧ (k + 0 ≤ 600000 ∧ j + 0 ≤ 7302250) ∧ S_X10_late t357 (xs (i3 + 1).toNatClampNeg) μ (fun r364 μ361 => vp_in (i3 + 1) L ∧ ∃ t365, r2 = some t365 ∧ mok μ361 t365 11 ∧ ((k + 0) + 0 ≤ 600000 ∧ (j + 0) + 0 ≤ 7302250) ∧ S_X11_late t365 (xs (i3 + 1).toNatClampNeg) μ361 (fun r372 μ369 => ((r364 = r372 → B_L_law_1814 L xs (some t357) (some t365) i3 ((k + 0) + 0) ((j + 0) + 0) μ369 K18 Q) ∧ (¬ r364 = r372 → (((k + 0) + 0) ≤ 600000 ∧ ((j + 0) + 0) ≤ 7302250) ∧ (0 : Int32) = 1))))
set_option maxHeartbeats 4000000 in
set_option maxRecDepth 100000 in
theorem tB_L_law_845 {x : GX} {b L : Nat} {xs : Nat → Int32} (f : Fx x cL_law RL 4 room_1) {r1 : Option Nat} {r2 : Option Nat} {i3 : Int32} {k j : Nat} {μ : Me} {Q : Int32 → Me → Prop} (hx : Lx x b L xs) {K18 : Int32 → Nat → Nat → Me → Prop} (hK18 : ∀ (a3 : Int32) (k j : Nat) (ν : Me), K18 a3 k j ν → G x 4 18 [(0, .ref b), (1, vr (gB x) r1), (2, vr (gB x) r2), (3, .int a3)] [] ν k j) (h : B_L_law_845 L xs r1 r2 i3 k j μ K18 Q) : G x 4 845 [(0, .ref b), (1, vr (gB x) r1), (2, vr (gB x) r2), (3, .int i3)] [] μ k j := by
  unfold B_L_law_845 at h
  refine g_aload_nQ f 1 dL_law_845 rfl rfl ?_
  refine g_aload_n f 0 dL_law_846 rfl rfl ?_
  refine g_iload_n f 3 dL_law_847 rfl rfl ?_
  refine g_iconst f 1 dL_law_848 kc_1 ?_
  refine g_iadd f dL_law_849 ?_
  refine g_sld f hx dL_law_850 h (fun h => ?_)
  obtain ⟨t357, e358, h359⟩ := h
  subst e358
  have h := h359
  obtain ⟨v360, h⟩ := h
  obtain ⟨⟨c363, c363b⟩, h⟩ := h
  refine g_callV f mk_L_97 v360 (c_X10_late h) dL_law_851 rfl rfl (Nat.le_of_ble_eq_true rfl) (rm_okL (by decide) (by decide)) ⟨c363, c363b⟩ (kI fun r364 μ361 x362 h => ?_)
  refine g_aload_nQ f 2 dL_law_854 rfl rfl ?_
  refine g_aload_n f 0 dL_law_855 rfl rfl ?_
  refine g_iload_n f 3 dL_law_856 rfl rfl ?_
  refine g_iconst f 1 dL_law_857 kc_1 ?_
  refine g_iadd f dL_law_858 ?_
  refine g_sld f hx dL_law_859 h (fun h => ?_)
  obtain ⟨t365, e366, h367⟩ := h
  subst e366
  have h := h367
  obtain ⟨v368, h⟩ := h
  obtain ⟨⟨c371, c371b⟩, h⟩ := h
  refine g_callV f mk_L_100 v368 (c_X11_late h) dL_law_860 rfl rfl (Nat.le_of_ble_eq_true rfl) (rm_okL (by decide) (by decide)) ⟨c371, c371b⟩ (kI fun r372 μ369 x370 h => ?_)
  refine g_ic_eq f 1814 dL_law_863 rfl h (fun h => ?_) (fun h => ?_)
  · exact h_sub [0, 1, 2, 3] rfl (tB_L_law_1814 f hx hK18 h)
  · refine g_iconst f 0 dL_law_866 kc_0 ?_
    obtain ⟨⟨c373, c373b⟩, h⟩ := h
    exact g_lawret f hx c373 c373b rfl dL_law_867 h
def B_L_law_868 (L : Nat) (xs : Nat → Int32) (r1 : Option Nat) (r2 : Option Nat) (i3 : Int32) (k j : Nat) (μ : Me) (K18 : Int32 → Nat → Nat → Me → Prop) (Q : Int32 → Me → Prop) : Prop := vp_in (i3 + 1) L ∧ ∃ t375, r1 = some t375 ∧ mok μ t375 10 ∧ (k + 0 ≤ 600000 ∧ j + 0 ≤ 7302250) ∧ S_X10_runners t375 (xs (i3 + 1).toNatClampNeg) μ (fun r382 μ379 => vp_in (i3 + 1) L ∧ ∃ t383, r2 = some t383 ∧ mok μ379 t383 11 ∧ ((k + 0) + 0 ≤ 600000 ∧ (j + 0) + 0 ≤ 7302250) ∧ S_X11_runners t383 (xs (i3 + 1).toNatClampNeg) μ379 (fun r390 μ387 => ((r382 = r390 → B_L_law_1814 L xs (some t375) (some t383) i3 ((k + 0) + 0) ((j + 0) + 0) μ387 K18 Q) ∧ (¬ r382 = r390 → (((k + 0) + 0) ≤ 600000 ∧ ((j + 0) + 0) ≤ 7302250) ∧ (0 : Int32) = 1))))
set_option maxHeartbeats 4000000 in
set_option maxRecDepth 100000 in
theorem tB_L_law_868 {x : GX} {b L : Nat} {xs : Nat → Int32} (f : Fx x cL_law RL 4 room_1) {r1 : Option Nat} {r2 : Option Nat} {i3 : Int32} {k j : Nat} {μ : Me} {Q : Int32 → Me → Prop} (hx : Lx x b L xs) {K18 : Int32 → Nat → Nat → Me → Prop} (hK18 : ∀ (a3 : Int32) (k j : Nat) (ν : Me), K18 a3 k j ν → G x 4 18 [(0, .ref b), (1, vr (gB x) r1), (2, vr (gB x) r2), (3, .int a3)] [] ν k j) (h : B_L_law_868 L xs r1 r2 i3 k j μ K18 Q) : G x 4 868 [(0, .ref b), (1, vr (gB x) r1), (2, vr (gB x) r2), (3, .int i3)] [] μ k j := by
  unfold B_L_law_868 at h
  refine g_aload_nQ f 1 dL_law_868 rfl rfl ?_
  refine g_aload_n f 0 dL_law_869 rfl rfl ?_
  refine g_iload_n f 3 dL_law_870 rfl rfl ?_
  refine g_iconst f 1 dL_law_871 kc_1 ?_
  refine g_iadd f dL_law_872 ?_
  refine g_sld f hx dL_law_873 h (fun h => ?_)
  obtain ⟨t375, e376, h377⟩ := h
  subst e376
  have h := h377
  obtain ⟨v378, h⟩ := h
  obtain ⟨⟨c381, c381b⟩, h⟩ := h
  refine g_callV f mk_L_101 v378 (c_X10_runners h) dL_law_874 rfl rfl (Nat.le_of_ble_eq_true rfl) (rm_okL (by decide) (by decide)) ⟨c381, c381b⟩ (kI fun r382 μ379 x380 h => ?_)
  refine g_aload_nQ f 2 dL_law_877 rfl rfl ?_
  refine g_aload_n f 0 dL_law_878 rfl rfl ?_
  refine g_iload_n f 3 dL_law_879 rfl rfl ?_
  refine g_iconst f 1 dL_law_880 kc_1 ?_
  refine g_iadd f dL_law_881 ?_
  refine g_sld f hx dL_law_882 h (fun h => ?_)
  obtain ⟨t383, e384, h385⟩ := h
  subst e384
  have h := h385
  obtain ⟨v386, h⟩ := h
  obtain ⟨⟨c389, c389b⟩, h⟩ := h
  refine g_callV f mk_L_104 v386 (c_X11_runners h) dL_law_883 rfl rfl (Nat.le_of_ble_eq_true rfl) (rm_okL (by decide) (by decide)) ⟨c389, c389b⟩ (kI fun r390 μ387 x388 h => ?_)
  refine g_ic_eq f 1814 dL_law_886 rfl h (fun h => ?_) (fun h => ?_)
  · exact h_sub [0, 1, 2, 3] rfl (tB_L_law_1814 f hx hK18 h)
  · refine g_iconst f 0 dL_law_889 kc_0 ?_
    obtain ⟨⟨c391, c391b⟩, h⟩ := h
    exact g_lawret f hx c391 c391b rfl dL_law_890 h
def B_L_law_891 (L : Nat) (xs : Nat → Int32) (r1 : Option Nat) (r2 : Option Nat) (i3 : Int32) (k j : Nat) (μ : Me) (K18 : Int32 → Nat → Nat → Me → Prop) (Q : Int32 → Me → Prop) : Prop := vp_in (i3 + 1) L ∧ ∃ t393, r1 = some t393 ∧ mok μ t393 10 ∧ (k + 0 ≤ 600000 ∧ j + 0 ≤ 7302250) ∧ S_X10_settled t393 (xs (i3 + 1).toNatClampNeg) μ (fun r400 μ397 => vp_in (i3 + 1) L ∧ ∃ t401, r2 = some t401 ∧ mok μ397 t401 11 ∧ ((k + 0) + 0 ≤ 600000 ∧ (j + 0) + 0 ≤ 7302250) ∧ S_X11_settled t401 (xs (i3 + 1).toNatClampNeg) μ397 (fun r408 μ405 => ((r400 = r408 → B_L_law_1814 L xs (some t393) (some t401) i3 ((k + 0) + 0) ((j + 0) + 0) μ405 K18 Q) ∧ (¬ r400 = r408 → (((k + 0) + 0) ≤ 600000 ∧ ((j + 0) + 0) ≤ 7302250) ∧ (0 : Int32) = 1))))
set_option maxHeartbeats 4000000 in
set_option maxRecDepth 100000 in
theorem tB_L_law_891 {x : GX} {b L : Nat} {xs : Nat → Int32} (f : Fx x cL_law RL 4 room_1) {r1 : Option Nat} {r2 : Option Nat} {i3 : Int32} {k j : Nat} {μ : Me} {Q : Int32 → Me → Prop} (hx : Lx x b L xs) {K18 : Int32 → Nat → Nat → Me → Prop} (hK18 : ∀ (a3 : Int32) (k j : Nat) (ν : Me), K18 a3 k j ν → G x 4 18 [(0, .ref b), (1, vr (gB x) r1), (2, vr (gB x) r2), (3, .int a3)] [] ν k j) (h : B_L_law_891 L xs r1 r2 i3 k j μ K18 Q) : G x 4 891 [(0, .ref b), (1, vr (gB x) r1), (2, vr (gB x) r2), (3, .int i3)] [] μ k j := by
  unfold B_L_law_891 at h
  refine g_aload_nQ f 1 dL_law_891 rfl rfl ?_
  refine g_aload_n f 0 dL_law_892 rfl rfl ?_
  refine g_iload_n f 3 dL_law_893 rfl rfl ?_
  refine g_iconst f 1 dL_law_894 kc_1 ?_
  refine g_iadd f dL_law_895 ?_
  refine g_sld f hx dL_law_896 h (fun h => ?_)
  obtain ⟨t393, e394, h395⟩ := h
  subst e394
  have h := h395
  obtain ⟨v396, h⟩ := h
  obtain ⟨⟨c399, c399b⟩, h⟩ := h
  refine g_callV f mk_L_105 v396 (c_X10_settled h) dL_law_897 rfl rfl (Nat.le_of_ble_eq_true rfl) (rm_okL (by decide) (by decide)) ⟨c399, c399b⟩ (kI fun r400 μ397 x398 h => ?_)
  refine g_aload_nQ f 2 dL_law_900 rfl rfl ?_
  refine g_aload_n f 0 dL_law_901 rfl rfl ?_
  refine g_iload_n f 3 dL_law_902 rfl rfl ?_
  refine g_iconst f 1 dL_law_903 kc_1 ?_
  refine g_iadd f dL_law_904 ?_
  refine g_sld f hx dL_law_905 h (fun h => ?_)
  obtain ⟨t401, e402, h403⟩ := h
  subst e402
  have h := h403
  obtain ⟨v404, h⟩ := h
  obtain ⟨⟨c407, c407b⟩, h⟩ := h
  refine g_callV f mk_L_108 v404 (c_X11_settled h) dL_law_906 rfl rfl (Nat.le_of_ble_eq_true rfl) (rm_okL (by decide) (by decide)) ⟨c407, c407b⟩ (kI fun r408 μ405 x406 h => ?_)
  refine g_ic_eq f 1814 dL_law_909 rfl h (fun h => ?_) (fun h => ?_)
  · exact h_sub [0, 1, 2, 3] rfl (tB_L_law_1814 f hx hK18 h)
  · refine g_iconst f 0 dL_law_912 kc_0 ?_
    obtain ⟨⟨c409, c409b⟩, h⟩ := h
    exact g_lawret f hx c409 c409b rfl dL_law_913 h
def B_L_law_945 (L : Nat) (xs : Nat → Int32) (r1 : Option Nat) (r2 : Option Nat) (i3 : Int32) (s0 : Int32) (s1 : Option Nat) (s2 : Int32) (k j : Nat) (μ : Me) (K18 : Int32 → Nat → Nat → Me → Prop) (Q : Int32 → Me → Prop) : Prop := ∃ t419, s1 = some t419 ∧ mok μ t419 11 ∧ (k + 0 ≤ 600000 ∧ j + 0 ≤ 7302250) ∧ S_X11_fewest t419 s0 μ (fun r426 μ423 => ((s2 = r426 → B_L_law_1814 L xs r1 r2 i3 (k + 0) (j + 0) μ423 K18 Q) ∧ (¬ s2 = r426 → ((k + 0) ≤ 600000 ∧ (j + 0) ≤ 7302250) ∧ (0 : Int32) = 1)))
set_option maxHeartbeats 4000000 in
set_option maxRecDepth 100000 in
theorem tB_L_law_945 {x : GX} {b L : Nat} {xs : Nat → Int32} (f : Fx x cL_law RL 4 room_1) {r1 : Option Nat} {r2 : Option Nat} {i3 : Int32} {s0 : Int32} {s1 : Option Nat} {s2 : Int32} {k j : Nat} {μ : Me} {Q : Int32 → Me → Prop} (hx : Lx x b L xs) {K18 : Int32 → Nat → Nat → Me → Prop} (hK18 : ∀ (a3 : Int32) (k j : Nat) (ν : Me), K18 a3 k j ν → G x 4 18 [(0, .ref b), (1, vr (gB x) r1), (2, vr (gB x) r2), (3, .int a3)] [] ν k j) (h : B_L_law_945 L xs r1 r2 i3 s0 s1 s2 k j μ K18 Q) : G x 4 945 [(0, .ref b), (1, vr (gB x) r1), (2, vr (gB x) r2), (3, .int i3)] [.int s0, vr (gB x) s1, .int s2] μ k j := by
  unfold B_L_law_945 at h
  obtain ⟨t419, e420, h421⟩ := h
  subst e420
  have h := h421
  obtain ⟨v422, h⟩ := h
  obtain ⟨⟨c425, c425b⟩, h⟩ := h
  refine g_callV f mk_L_113 v422 (c_X11_fewest h) dL_law_945 rfl rfl (Nat.le_of_ble_eq_true rfl) (rm_okL (by decide) (by decide)) ⟨c425, c425b⟩ (kI fun r426 μ423 x424 h => ?_)
  refine g_ic_eq f 1814 dL_law_948 rfl h (fun h => ?_) (fun h => ?_)
  · exact h_sub [0, 1, 2, 3] rfl (tB_L_law_1814 f hx hK18 h)
  · refine g_iconst f 0 dL_law_951 kc_0 ?_
    obtain ⟨⟨c427, c427b⟩, h⟩ := h
    exact g_lawret f hx c427 c427b rfl dL_law_952 h
def B_L_law_928 (L : Nat) (xs : Nat → Int32) (r1 : Option Nat) (r2 : Option Nat) (i3 : Int32) (s0 : Int32) (s1 : Option Nat) (k j : Nat) (μ : Me) (K18 : Int32 → Nat → Nat → Me → Prop) (Q : Int32 → Me → Prop) : Prop := ∃ t411, s1 = some t411 ∧ mok μ t411 10 ∧ (k + 0 ≤ 600000 ∧ j + 0 ≤ 7302250) ∧ S_X10_fewest t411 s0 μ (fun r418 μ415 => vp_in (i3 + 1) L ∧ (((xs (i3 + 1).toNatClampNeg) = 0 → B_L_law_945 L xs r1 r2 i3 0 r2 r418 (k + 0) (j + 0) μ415 K18 Q) ∧ (¬ (xs (i3 + 1).toNatClampNeg) = 0 → B_L_law_945 L xs r1 r2 i3 1 r2 r418 (k + 0) (j + 0) μ415 K18 Q)))
set_option maxHeartbeats 4000000 in
set_option maxRecDepth 100000 in
theorem tB_L_law_928 {x : GX} {b L : Nat} {xs : Nat → Int32} (f : Fx x cL_law RL 4 room_1) {r1 : Option Nat} {r2 : Option Nat} {i3 : Int32} {s0 : Int32} {s1 : Option Nat} {k j : Nat} {μ : Me} {Q : Int32 → Me → Prop} (hx : Lx x b L xs) {K18 : Int32 → Nat → Nat → Me → Prop} (hK18 : ∀ (a3 : Int32) (k j : Nat) (ν : Me), K18 a3 k j ν → G x 4 18 [(0, .ref b), (1, vr (gB x) r1), (2, vr (gB x) r2), (3, .int a3)] [] ν k j) (h : B_L_law_928 L xs r1 r2 i3 s0 s1 k j μ K18 Q) : G x 4 928 [(0, .ref b), (1, vr (gB x) r1), (2, vr (gB x) r2), (3, .int i3)] [.int s0, vr (gB x) s1] μ k j := by
  unfold B_L_law_928 at h
  obtain ⟨t411, e412, h413⟩ := h
  subst e412
  have h := h413
  obtain ⟨v414, h⟩ := h
  obtain ⟨⟨c417, c417b⟩, h⟩ := h
  refine g_callV f mk_L_109 v414 (c_X10_fewest h) dL_law_928 rfl rfl (Nat.le_of_ble_eq_true rfl) (rm_okL (by decide) (by decide)) ⟨c417, c417b⟩ (kI fun r418 μ415 x416 h => ?_)
  refine g_aload_nQ f 2 dL_law_931 rfl rfl ?_
  refine g_aload_n f 0 dL_law_932 rfl rfl ?_
  refine g_iload_n f 3 dL_law_933 rfl rfl ?_
  refine g_iconst f 1 dL_law_934 kc_1 ?_
  refine g_iadd f dL_law_935 ?_
  refine g_sld f hx dL_law_936 h (fun h => ?_)
  refine g_if_eq f 944 dL_law_937 rfl h (fun h => ?_) (fun h => ?_)
  · refine g_iconst f 0 dL_law_944 kc_0 ?_
    exact h_sub [0, 1, 2, 3] rfl (tB_L_law_945 f hx hK18 h)
  · refine g_iconst f 1 dL_law_940 kc_1 ?_
    refine g_goto f 945 dL_law_941 rfl ?_
    exact h_sub [0, 1, 2, 3] rfl (tB_L_law_945 f hx hK18 h)
def B_L_law_914 (L : Nat) (xs : Nat → Int32) (r1 : Option Nat) (r2 : Option Nat) (i3 : Int32) (k j : Nat) (μ : Me) (K18 : Int32 → Nat → Nat → Me → Prop) (Q : Int32 → Me → Prop) : Prop := vp_in (i3 + 1) L ∧ (((xs (i3 + 1).toNatClampNeg) = 0 → B_L_law_928 L xs r1 r2 i3 0 r1 k j μ K18 Q) ∧ (¬ (xs (i3 + 1).toNatClampNeg) = 0 → B_L_law_928 L xs r1 r2 i3 1 r1 k j μ K18 Q))
set_option maxHeartbeats 4000000 in
set_option maxRecDepth 100000 in
theorem tB_L_law_914 {x : GX} {b L : Nat} {xs : Nat → Int32} (f : Fx x cL_law RL 4 room_1) {r1 : Option Nat} {r2 : Option Nat} {i3 : Int32} {k j : Nat} {μ : Me} {Q : Int32 → Me → Prop} (hx : Lx x b L xs) {K18 : Int32 → Nat → Nat → Me → Prop} (hK18 : ∀ (a3 : Int32) (k j : Nat) (ν : Me), K18 a3 k j ν → G x 4 18 [(0, .ref b), (1, vr (gB x) r1), (2, vr (gB x) r2), (3, .int a3)] [] ν k j) (h : B_L_law_914 L xs r1 r2 i3 k j μ K18 Q) : G x 4 914 [(0, .ref b), (1, vr (gB x) r1), (2, vr (gB x) r2), (3, .int i3)] [] μ k j := by
  unfold B_L_law_914 at h
  refine g_aload_nQ f 1 dL_law_914 rfl rfl ?_
  refine g_aload_n f 0 dL_law_915 rfl rfl ?_
  refine g_iload_n f 3 dL_law_916 rfl rfl ?_
  refine g_iconst f 1 dL_law_917 kc_1 ?_
  refine g_iadd f dL_law_918 ?_
  refine g_sld f hx dL_law_919 h (fun h => ?_)
  refine g_if_eq f 927 dL_law_920 rfl h (fun h => ?_) (fun h => ?_)
  · refine g_iconst f 0 dL_law_927 kc_0 ?_
    exact h_sub [0, 1, 2, 3] rfl (tB_L_law_928 f hx hK18 h)
  · refine g_iconst f 1 dL_law_923 kc_1 ?_
    refine g_goto f 928 dL_law_924 rfl ?_
    exact h_sub [0, 1, 2, 3] rfl (tB_L_law_928 f hx hK18 h)
def B_L_law_953 (L : Nat) (xs : Nat → Int32) (r1 : Option Nat) (r2 : Option Nat) (i3 : Int32) (k j : Nat) (μ : Me) (K18 : Int32 → Nat → Nat → Me → Prop) (Q : Int32 → Me → Prop) : Prop := vp_in (i3 + 1) L ∧ ∃ t429, r1 = some t429 ∧ mok μ t429 10 ∧ (k + 0 ≤ 600000 ∧ j + 0 ≤ 7302250) ∧ S_X10_tail t429 (xs (i3 + 1).toNatClampNeg) μ (fun r436 μ433 => vp_in (i3 + 1) L ∧ ∃ t437, r2 = some t437 ∧ mok μ433 t437 11 ∧ ((k + 0) + 0 ≤ 600000 ∧ (j + 0) + 0 ≤ 7302250) ∧ S_X11_tail t437 (xs (i3 + 1).toNatClampNeg) μ433 (fun r444 μ441 => ((r436 = r444 → B_L_law_1814 L xs (some t429) (some t437) i3 ((k + 0) + 0) ((j + 0) + 0) μ441 K18 Q) ∧ (¬ r436 = r444 → (((k + 0) + 0) ≤ 600000 ∧ ((j + 0) + 0) ≤ 7302250) ∧ (0 : Int32) = 1))))
set_option maxHeartbeats 4000000 in
set_option maxRecDepth 100000 in
theorem tB_L_law_953 {x : GX} {b L : Nat} {xs : Nat → Int32} (f : Fx x cL_law RL 4 room_1) {r1 : Option Nat} {r2 : Option Nat} {i3 : Int32} {k j : Nat} {μ : Me} {Q : Int32 → Me → Prop} (hx : Lx x b L xs) {K18 : Int32 → Nat → Nat → Me → Prop} (hK18 : ∀ (a3 : Int32) (k j : Nat) (ν : Me), K18 a3 k j ν → G x 4 18 [(0, .ref b), (1, vr (gB x) r1), (2, vr (gB x) r2), (3, .int a3)] [] ν k j) (h : B_L_law_953 L xs r1 r2 i3 k j μ K18 Q) : G x 4 953 [(0, .ref b), (1, vr (gB x) r1), (2, vr (gB x) r2), (3, .int i3)] [] μ k j := by
  unfold B_L_law_953 at h
  refine g_aload_nQ f 1 dL_law_953 rfl rfl ?_
  refine g_aload_n f 0 dL_law_954 rfl rfl ?_
  refine g_iload_n f 3 dL_law_955 rfl rfl ?_
  refine g_iconst f 1 dL_law_956 kc_1 ?_
  refine g_iadd f dL_law_957 ?_
  refine g_sld f hx dL_law_958 h (fun h => ?_)
  obtain ⟨t429, e430, h431⟩ := h
  subst e430
  have h := h431
  obtain ⟨v432, h⟩ := h
  obtain ⟨⟨c435, c435b⟩, h⟩ := h
  refine g_callV f mk_L_114 v432 (c_X10_tail h) dL_law_959 rfl rfl (Nat.le_of_ble_eq_true rfl) (rm_okL (by decide) (by decide)) ⟨c435, c435b⟩ (kI fun r436 μ433 x434 h => ?_)
  refine g_aload_nQ f 2 dL_law_962 rfl rfl ?_
  refine g_aload_n f 0 dL_law_963 rfl rfl ?_
  refine g_iload_n f 3 dL_law_964 rfl rfl ?_
  refine g_iconst f 1 dL_law_965 kc_1 ?_
  refine g_iadd f dL_law_966 ?_
  refine g_sld f hx dL_law_967 h (fun h => ?_)
  obtain ⟨t437, e438, h439⟩ := h
  subst e438
  have h := h439
  obtain ⟨v440, h⟩ := h
  obtain ⟨⟨c443, c443b⟩, h⟩ := h
  refine g_callV f mk_L_117 v440 (c_X11_tail h) dL_law_968 rfl rfl (Nat.le_of_ble_eq_true rfl) (rm_okL (by decide) (by decide)) ⟨c443, c443b⟩ (kI fun r444 μ441 x442 h => ?_)
  refine g_ic_eq f 1814 dL_law_971 rfl h (fun h => ?_) (fun h => ?_)
  · exact h_sub [0, 1, 2, 3] rfl (tB_L_law_1814 f hx hK18 h)
  · refine g_iconst f 0 dL_law_974 kc_0 ?_
    obtain ⟨⟨c445, c445b⟩, h⟩ := h
    exact g_lawret f hx c445 c445b rfl dL_law_975 h
def B_L_law_976 (L : Nat) (xs : Nat → Int32) (r1 : Option Nat) (r2 : Option Nat) (i3 : Int32) (k j : Nat) (μ : Me) (K18 : Int32 → Nat → Nat → Me → Prop) (Q : Int32 → Me → Prop) : Prop := vp_in (i3 + 1) L ∧ ∃ t447, r1 = some t447 ∧ mok μ t447 10 ∧ (k + 0 ≤ 600000 ∧ j + 0 ≤ 7302250) ∧ S_X10_round t447 (xs (i3 + 1).toNatClampNeg) μ (fun r454 μ451 => vp_in (i3 + 1) L ∧ ∃ t455, r2 = some t455 ∧ mok μ451 t455 11 ∧ ((k + 0) + 0 ≤ 600000 ∧ (j + 0) + 0 ≤ 7302250) ∧ S_X11_round t455 (xs (i3 + 1).toNatClampNeg) μ451 (fun r462 μ459 => ((r454 = r462 → B_L_law_1814 L xs (some t447) (some t455) i3 ((k + 0) + 0) ((j + 0) + 0) μ459 K18 Q) ∧ (¬ r454 = r462 → (((k + 0) + 0) ≤ 600000 ∧ ((j + 0) + 0) ≤ 7302250) ∧ (0 : Int32) = 1))))
set_option maxHeartbeats 4000000 in
set_option maxRecDepth 100000 in
theorem tB_L_law_976 {x : GX} {b L : Nat} {xs : Nat → Int32} (f : Fx x cL_law RL 4 room_1) {r1 : Option Nat} {r2 : Option Nat} {i3 : Int32} {k j : Nat} {μ : Me} {Q : Int32 → Me → Prop} (hx : Lx x b L xs) {K18 : Int32 → Nat → Nat → Me → Prop} (hK18 : ∀ (a3 : Int32) (k j : Nat) (ν : Me), K18 a3 k j ν → G x 4 18 [(0, .ref b), (1, vr (gB x) r1), (2, vr (gB x) r2), (3, .int a3)] [] ν k j) (h : B_L_law_976 L xs r1 r2 i3 k j μ K18 Q) : G x 4 976 [(0, .ref b), (1, vr (gB x) r1), (2, vr (gB x) r2), (3, .int i3)] [] μ k j := by
  unfold B_L_law_976 at h
  refine g_aload_nQ f 1 dL_law_976 rfl rfl ?_
  refine g_aload_n f 0 dL_law_977 rfl rfl ?_
  refine g_iload_n f 3 dL_law_978 rfl rfl ?_
  refine g_iconst f 1 dL_law_979 kc_1 ?_
  refine g_iadd f dL_law_980 ?_
  refine g_sld f hx dL_law_981 h (fun h => ?_)
  obtain ⟨t447, e448, h449⟩ := h
  subst e448
  have h := h449
  obtain ⟨v450, h⟩ := h
  obtain ⟨⟨c453, c453b⟩, h⟩ := h
  refine g_callV f mk_L_118 v450 (c_X10_round h) dL_law_982 rfl rfl (Nat.le_of_ble_eq_true rfl) (rm_okL (by decide) (by decide)) ⟨c453, c453b⟩ (kI fun r454 μ451 x452 h => ?_)
  refine g_aload_nQ f 2 dL_law_985 rfl rfl ?_
  refine g_aload_n f 0 dL_law_986 rfl rfl ?_
  refine g_iload_n f 3 dL_law_987 rfl rfl ?_
  refine g_iconst f 1 dL_law_988 kc_1 ?_
  refine g_iadd f dL_law_989 ?_
  refine g_sld f hx dL_law_990 h (fun h => ?_)
  obtain ⟨t455, e456, h457⟩ := h
  subst e456
  have h := h457
  obtain ⟨v458, h⟩ := h
  obtain ⟨⟨c461, c461b⟩, h⟩ := h
  refine g_callV f mk_L_121 v458 (c_X11_round h) dL_law_991 rfl rfl (Nat.le_of_ble_eq_true rfl) (rm_okL (by decide) (by decide)) ⟨c461, c461b⟩ (kI fun r462 μ459 x460 h => ?_)
  refine g_ic_eq f 1814 dL_law_994 rfl h (fun h => ?_) (fun h => ?_)
  · exact h_sub [0, 1, 2, 3] rfl (tB_L_law_1814 f hx hK18 h)
  · refine g_iconst f 0 dL_law_997 kc_0 ?_
    obtain ⟨⟨c463, c463b⟩, h⟩ := h
    exact g_lawret f hx c463 c463b rfl dL_law_998 h
def B_L_law_999 (L : Nat) (xs : Nat → Int32) (r1 : Option Nat) (r2 : Option Nat) (i3 : Int32) (k j : Nat) (μ : Me) (K18 : Int32 → Nat → Nat → Me → Prop) (Q : Int32 → Me → Prop) : Prop := ∃ t465, r1 = some t465 ∧ mok μ t465 10 ∧ (k + 0 ≤ 600000 ∧ j + 0 ≤ 7302250) ∧ S_X10_rounds t465 μ (fun r472 μ469 => ∃ t473, r2 = some t473 ∧ mok μ469 t473 11 ∧ ((k + 0) + 0 ≤ 600000 ∧ (j + 0) + 0 ≤ 7302250) ∧ S_X11_rounds t473 μ469 (fun r480 μ477 => ((r472 = r480 → B_L_law_1814 L xs (some t465) (some t473) i3 ((k + 0) + 0) ((j + 0) + 0) μ477 K18 Q) ∧ (¬ r472 = r480 → (((k + 0) + 0) ≤ 600000 ∧ ((j + 0) + 0) ≤ 7302250) ∧ (0 : Int32) = 1))))
set_option maxHeartbeats 4000000 in
set_option maxRecDepth 100000 in
theorem tB_L_law_999 {x : GX} {b L : Nat} {xs : Nat → Int32} (f : Fx x cL_law RL 4 room_1) {r1 : Option Nat} {r2 : Option Nat} {i3 : Int32} {k j : Nat} {μ : Me} {Q : Int32 → Me → Prop} (hx : Lx x b L xs) {K18 : Int32 → Nat → Nat → Me → Prop} (hK18 : ∀ (a3 : Int32) (k j : Nat) (ν : Me), K18 a3 k j ν → G x 4 18 [(0, .ref b), (1, vr (gB x) r1), (2, vr (gB x) r2), (3, .int a3)] [] ν k j) (h : B_L_law_999 L xs r1 r2 i3 k j μ K18 Q) : G x 4 999 [(0, .ref b), (1, vr (gB x) r1), (2, vr (gB x) r2), (3, .int i3)] [] μ k j := by
  unfold B_L_law_999 at h
  refine g_aload_nQ f 1 dL_law_999 rfl rfl ?_
  obtain ⟨t465, e466, h467⟩ := h
  subst e466
  have h := h467
  obtain ⟨v468, h⟩ := h
  obtain ⟨⟨c471, c471b⟩, h⟩ := h
  refine g_callV f mk_L_122 v468 (c_X10_rounds h) dL_law_1000 rfl rfl (Nat.le_of_ble_eq_true rfl) (rm_okL (by decide) (by decide)) ⟨c471, c471b⟩ (kI fun r472 μ469 x470 h => ?_)
  refine g_aload_nQ f 2 dL_law_1003 rfl rfl ?_
  obtain ⟨t473, e474, h475⟩ := h
  subst e474
  have h := h475
  obtain ⟨v476, h⟩ := h
  obtain ⟨⟨c479, c479b⟩, h⟩ := h
  refine g_callV f mk_L_125 v476 (c_X11_rounds h) dL_law_1004 rfl rfl (Nat.le_of_ble_eq_true rfl) (rm_okL (by decide) (by decide)) ⟨c479, c479b⟩ (kI fun r480 μ477 x478 h => ?_)
  refine g_ic_eq f 1814 dL_law_1007 rfl h (fun h => ?_) (fun h => ?_)
  · exact h_sub [0, 1, 2, 3] rfl (tB_L_law_1814 f hx hK18 h)
  · refine g_iconst f 0 dL_law_1010 kc_0 ?_
    obtain ⟨⟨c481, c481b⟩, h⟩ := h
    exact g_lawret f hx c481 c481b rfl dL_law_1011 h
def B_L_law_1012 (L : Nat) (xs : Nat → Int32) (r1 : Option Nat) (r2 : Option Nat) (i3 : Int32) (k j : Nat) (μ : Me) (K18 : Int32 → Nat → Nat → Me → Prop) (Q : Int32 → Me → Prop) : Prop := vp_in (i3 + 1) L ∧ ∃ t483, r1 = some t483 ∧ mok μ t483 10 ∧ (k + 0 ≤ 600000 ∧ j + 0 ≤ 7302250) ∧ S_X10_basin t483 (xs (i3 + 1).toNatClampNeg) μ (fun r490 μ487 => vp_in (i3 + 1) L ∧ ∃ t491, r2 = some t491 ∧ mok μ487 t491 11 ∧ ((k + 0) + 0 ≤ 600000 ∧ (j + 0) + 0 ≤ 7302250) ∧ S_X11_basin t491 (xs (i3 + 1).toNatClampNeg) μ487 (fun r498 μ495 => ((r490 = r498 → B_L_law_1814 L xs (some t483) (some t491) i3 ((k + 0) + 0) ((j + 0) + 0) μ495 K18 Q) ∧ (¬ r490 = r498 → (((k + 0) + 0) ≤ 600000 ∧ ((j + 0) + 0) ≤ 7302250) ∧ (0 : Int32) = 1))))
set_option maxHeartbeats 4000000 in
set_option maxRecDepth 100000 in
theorem tB_L_law_1012 {x : GX} {b L : Nat} {xs : Nat → Int32} (f : Fx x cL_law RL 4 room_1) {r1 : Option Nat} {r2 : Option Nat} {i3 : Int32} {k j : Nat} {μ : Me} {Q : Int32 → Me → Prop} (hx : Lx x b L xs) {K18 : Int32 → Nat → Nat → Me → Prop} (hK18 : ∀ (a3 : Int32) (k j : Nat) (ν : Me), K18 a3 k j ν → G x 4 18 [(0, .ref b), (1, vr (gB x) r1), (2, vr (gB x) r2), (3, .int a3)] [] ν k j) (h : B_L_law_1012 L xs r1 r2 i3 k j μ K18 Q) : G x 4 1012 [(0, .ref b), (1, vr (gB x) r1), (2, vr (gB x) r2), (3, .int i3)] [] μ k j := by
  unfold B_L_law_1012 at h
  refine g_aload_nQ f 1 dL_law_1012 rfl rfl ?_
  refine g_aload_n f 0 dL_law_1013 rfl rfl ?_
  refine g_iload_n f 3 dL_law_1014 rfl rfl ?_
  refine g_iconst f 1 dL_law_1015 kc_1 ?_
  refine g_iadd f dL_law_1016 ?_
  refine g_sld f hx dL_law_1017 h (fun h => ?_)
  obtain ⟨t483, e484, h485⟩ := h
  subst e484
  have h := h485
  obtain ⟨v486, h⟩ := h
  obtain ⟨⟨c489, c489b⟩, h⟩ := h
  refine g_callV f mk_L_126 v486 (c_X10_basin h) dL_law_1018 rfl rfl (Nat.le_of_ble_eq_true rfl) (rm_okL (by decide) (by decide)) ⟨c489, c489b⟩ (kI fun r490 μ487 x488 h => ?_)
  refine g_aload_nQ f 2 dL_law_1021 rfl rfl ?_
  refine g_aload_n f 0 dL_law_1022 rfl rfl ?_
  refine g_iload_n f 3 dL_law_1023 rfl rfl ?_
  refine g_iconst f 1 dL_law_1024 kc_1 ?_
  refine g_iadd f dL_law_1025 ?_
  refine g_sld f hx dL_law_1026 h (fun h => ?_)
  obtain ⟨t491, e492, h493⟩ := h
  subst e492
  have h := h493
  obtain ⟨v494, h⟩ := h
  obtain ⟨⟨c497, c497b⟩, h⟩ := h
  refine g_callV f mk_L_129 v494 (c_X11_basin h) dL_law_1027 rfl rfl (Nat.le_of_ble_eq_true rfl) (rm_okL (by decide) (by decide)) ⟨c497, c497b⟩ (kI fun r498 μ495 x496 h => ?_)
  refine g_ic_eq f 1814 dL_law_1030 rfl h (fun h => ?_) (fun h => ?_)
  · exact h_sub [0, 1, 2, 3] rfl (tB_L_law_1814 f hx hK18 h)
  · refine g_iconst f 0 dL_law_1033 kc_0 ?_
    obtain ⟨⟨c499, c499b⟩, h⟩ := h
    exact g_lawret f hx c499 c499b rfl dL_law_1034 h
def B_L_law_1035 (L : Nat) (xs : Nat → Int32) (r1 : Option Nat) (r2 : Option Nat) (i3 : Int32) (k j : Nat) (μ : Me) (K18 : Int32 → Nat → Nat → Me → Prop) (Q : Int32 → Me → Prop) : Prop := ∃ t501, r1 = some t501 ∧ mok μ t501 10 ∧ (k + 0 ≤ 600000 ∧ j + 0 ≤ 7302250) ∧ S_X10_never t501 μ (fun r508 μ505 => ∃ t509, r2 = some t509 ∧ mok μ505 t509 11 ∧ ((k + 0) + 0 ≤ 600000 ∧ (j + 0) + 0 ≤ 7302250) ∧ S_X11_never t509 μ505 (fun r516 μ513 => ((r508 = r516 → B_L_law_1814 L xs (some t501) (some t509) i3 ((k + 0) + 0) ((j + 0) + 0) μ513 K18 Q) ∧ (¬ r508 = r516 → (((k + 0) + 0) ≤ 600000 ∧ ((j + 0) + 0) ≤ 7302250) ∧ (0 : Int32) = 1))))
set_option maxHeartbeats 4000000 in
set_option maxRecDepth 100000 in
theorem tB_L_law_1035 {x : GX} {b L : Nat} {xs : Nat → Int32} (f : Fx x cL_law RL 4 room_1) {r1 : Option Nat} {r2 : Option Nat} {i3 : Int32} {k j : Nat} {μ : Me} {Q : Int32 → Me → Prop} (hx : Lx x b L xs) {K18 : Int32 → Nat → Nat → Me → Prop} (hK18 : ∀ (a3 : Int32) (k j : Nat) (ν : Me), K18 a3 k j ν → G x 4 18 [(0, .ref b), (1, vr (gB x) r1), (2, vr (gB x) r2), (3, .int a3)] [] ν k j) (h : B_L_law_1035 L xs r1 r2 i3 k j μ K18 Q) : G x 4 1035 [(0, .ref b), (1, vr (gB x) r1), (2, vr (gB x) r2), (3, .int i3)] [] μ k j := by
  unfold B_L_law_1035 at h
  refine g_aload_nQ f 1 dL_law_1035 rfl rfl ?_
  obtain ⟨t501, e502, h503⟩ := h
  subst e502
  have h := h503
  obtain ⟨v504, h⟩ := h
  obtain ⟨⟨c507, c507b⟩, h⟩ := h
  refine g_callV f mk_L_130 v504 (c_X10_never h) dL_law_1036 rfl rfl (Nat.le_of_ble_eq_true rfl) (rm_okL (by decide) (by decide)) ⟨c507, c507b⟩ (kI fun r508 μ505 x506 h => ?_)
  refine g_aload_nQ f 2 dL_law_1039 rfl rfl ?_
  obtain ⟨t509, e510, h511⟩ := h
  subst e510
  have h := h511
  obtain ⟨v512, h⟩ := h
  obtain ⟨⟨c515, c515b⟩, h⟩ := h
  refine g_callV f mk_L_133 v512 (c_X11_never h) dL_law_1040 rfl rfl (Nat.le_of_ble_eq_true rfl) (rm_okL (by decide) (by decide)) ⟨c515, c515b⟩ (kI fun r516 μ513 x514 h => ?_)
  refine g_ic_eq f 1814 dL_law_1043 rfl h (fun h => ?_) (fun h => ?_)
  · exact h_sub [0, 1, 2, 3] rfl (tB_L_law_1814 f hx hK18 h)
  · refine g_iconst f 0 dL_law_1046 kc_0 ?_
    obtain ⟨⟨c517, c517b⟩, h⟩ := h
    exact g_lawret f hx c517 c517b rfl dL_law_1047 h
def B_L_law_1048 (L : Nat) (xs : Nat → Int32) (r1 : Option Nat) (r2 : Option Nat) (i3 : Int32) (k j : Nat) (μ : Me) (K18 : Int32 → Nat → Nat → Me → Prop) (Q : Int32 → Me → Prop) : Prop := vp_in (i3 + 1) L ∧ vp_in (i3 + 2) L ∧ ∃ t519, r1 = some t519 ∧ mok μ t519 10 ∧ (k + 0 ≤ 600000 ∧ j + 0 ≤ 7302250) ∧ S_X10_after t519 (xs (i3 + 1).toNatClampNeg) (xs (i3 + 2).toNatClampNeg) μ (fun r526 μ523 => vp_in (i3 + 1) L ∧ vp_in (i3 + 2) L ∧ ∃ t527, r2 = some t527 ∧ mok μ523 t527 11 ∧ ((k + 0) + 0 ≤ 600000 ∧ (j + 0) + 0 ≤ 7302250) ∧ S_X11_after t527 (xs (i3 + 1).toNatClampNeg) (xs (i3 + 2).toNatClampNeg) μ523 (fun r534 μ531 => ((r526 = r534 → B_L_law_1814 L xs (some t519) (some t527) i3 ((k + 0) + 0) ((j + 0) + 0) μ531 K18 Q) ∧ (¬ r526 = r534 → (((k + 0) + 0) ≤ 600000 ∧ ((j + 0) + 0) ≤ 7302250) ∧ (0 : Int32) = 1))))
set_option maxHeartbeats 4000000 in
set_option maxRecDepth 100000 in
theorem tB_L_law_1048 {x : GX} {b L : Nat} {xs : Nat → Int32} (f : Fx x cL_law RL 4 room_1) {r1 : Option Nat} {r2 : Option Nat} {i3 : Int32} {k j : Nat} {μ : Me} {Q : Int32 → Me → Prop} (hx : Lx x b L xs) {K18 : Int32 → Nat → Nat → Me → Prop} (hK18 : ∀ (a3 : Int32) (k j : Nat) (ν : Me), K18 a3 k j ν → G x 4 18 [(0, .ref b), (1, vr (gB x) r1), (2, vr (gB x) r2), (3, .int a3)] [] ν k j) (h : B_L_law_1048 L xs r1 r2 i3 k j μ K18 Q) : G x 4 1048 [(0, .ref b), (1, vr (gB x) r1), (2, vr (gB x) r2), (3, .int i3)] [] μ k j := by
  unfold B_L_law_1048 at h
  refine g_aload_nQ f 1 dL_law_1048 rfl rfl ?_
  refine g_aload_n f 0 dL_law_1049 rfl rfl ?_
  refine g_iload_n f 3 dL_law_1050 rfl rfl ?_
  refine g_iconst f 1 dL_law_1051 kc_1 ?_
  refine g_iadd f dL_law_1052 ?_
  refine g_sld f hx dL_law_1053 h (fun h => ?_)
  refine g_aload_n f 0 dL_law_1054 rfl rfl ?_
  refine g_iload_n f 3 dL_law_1055 rfl rfl ?_
  refine g_iconst f 2 dL_law_1056 kc_2 ?_
  refine g_iadd f dL_law_1057 ?_
  refine g_sld f hx dL_law_1058 h (fun h => ?_)
  obtain ⟨t519, e520, h521⟩ := h
  subst e520
  have h := h521
  obtain ⟨v522, h⟩ := h
  obtain ⟨⟨c525, c525b⟩, h⟩ := h
  refine g_callV f mk_L_134 v522 (c_X10_after h) dL_law_1059 rfl rfl (Nat.le_of_ble_eq_true rfl) (rm_okL (by decide) (by decide)) ⟨c525, c525b⟩ (kI fun r526 μ523 x524 h => ?_)
  refine g_aload_nQ f 2 dL_law_1062 rfl rfl ?_
  refine g_aload_n f 0 dL_law_1063 rfl rfl ?_
  refine g_iload_n f 3 dL_law_1064 rfl rfl ?_
  refine g_iconst f 1 dL_law_1065 kc_1 ?_
  refine g_iadd f dL_law_1066 ?_
  refine g_sld f hx dL_law_1067 h (fun h => ?_)
  refine g_aload_n f 0 dL_law_1068 rfl rfl ?_
  refine g_iload_n f 3 dL_law_1069 rfl rfl ?_
  refine g_iconst f 2 dL_law_1070 kc_2 ?_
  refine g_iadd f dL_law_1071 ?_
  refine g_sld f hx dL_law_1072 h (fun h => ?_)
  obtain ⟨t527, e528, h529⟩ := h
  subst e528
  have h := h529
  obtain ⟨v530, h⟩ := h
  obtain ⟨⟨c533, c533b⟩, h⟩ := h
  refine g_callV f mk_L_137 v530 (c_X11_after h) dL_law_1073 rfl rfl (Nat.le_of_ble_eq_true rfl) (rm_okL (by decide) (by decide)) ⟨c533, c533b⟩ (kI fun r534 μ531 x532 h => ?_)
  refine g_ic_eq f 1814 dL_law_1076 rfl h (fun h => ?_) (fun h => ?_)
  · exact h_sub [0, 1, 2, 3] rfl (tB_L_law_1814 f hx hK18 h)
  · refine g_iconst f 0 dL_law_1079 kc_0 ?_
    obtain ⟨⟨c535, c535b⟩, h⟩ := h
    exact g_lawret f hx c535 c535b rfl dL_law_1080 h
def B_L_law_1081 (L : Nat) (xs : Nat → Int32) (r1 : Option Nat) (r2 : Option Nat) (i3 : Int32) (k j : Nat) (μ : Me) (K18 : Int32 → Nat → Nat → Me → Prop) (Q : Int32 → Me → Prop) : Prop := vp_in (i3 + 1) L ∧ vp_in (i3 + 2) L ∧ ∃ t537, r1 = some t537 ∧ mok μ t537 10 ∧ (k + 0 ≤ 600000 ∧ j + 0 ≤ 7302250) ∧ S_X10_times t537 (xs (i3 + 1).toNatClampNeg) (xs (i3 + 2).toNatClampNeg) μ (fun r544 μ541 => vp_in (i3 + 1) L ∧ vp_in (i3 + 2) L ∧ ∃ t545, r2 = some t545 ∧ mok μ541 t545 11 ∧ ((k + 0) + 0 ≤ 600000 ∧ (j + 0) + 0 ≤ 7302250) ∧ S_X11_times t545 (xs (i3 + 1).toNatClampNeg) (xs (i3 + 2).toNatClampNeg) μ541 (fun r552 μ549 => ((r544 = r552 → B_L_law_1814 L xs (some t537) (some t545) i3 ((k + 0) + 0) ((j + 0) + 0) μ549 K18 Q) ∧ (¬ r544 = r552 → (((k + 0) + 0) ≤ 600000 ∧ ((j + 0) + 0) ≤ 7302250) ∧ (0 : Int32) = 1))))
set_option maxHeartbeats 4000000 in
set_option maxRecDepth 100000 in
theorem tB_L_law_1081 {x : GX} {b L : Nat} {xs : Nat → Int32} (f : Fx x cL_law RL 4 room_1) {r1 : Option Nat} {r2 : Option Nat} {i3 : Int32} {k j : Nat} {μ : Me} {Q : Int32 → Me → Prop} (hx : Lx x b L xs) {K18 : Int32 → Nat → Nat → Me → Prop} (hK18 : ∀ (a3 : Int32) (k j : Nat) (ν : Me), K18 a3 k j ν → G x 4 18 [(0, .ref b), (1, vr (gB x) r1), (2, vr (gB x) r2), (3, .int a3)] [] ν k j) (h : B_L_law_1081 L xs r1 r2 i3 k j μ K18 Q) : G x 4 1081 [(0, .ref b), (1, vr (gB x) r1), (2, vr (gB x) r2), (3, .int i3)] [] μ k j := by
  unfold B_L_law_1081 at h
  refine g_aload_nQ f 1 dL_law_1081 rfl rfl ?_
  refine g_aload_n f 0 dL_law_1082 rfl rfl ?_
  refine g_iload_n f 3 dL_law_1083 rfl rfl ?_
  refine g_iconst f 1 dL_law_1084 kc_1 ?_
  refine g_iadd f dL_law_1085 ?_
  refine g_sld f hx dL_law_1086 h (fun h => ?_)
  refine g_aload_n f 0 dL_law_1087 rfl rfl ?_
  refine g_iload_n f 3 dL_law_1088 rfl rfl ?_
  refine g_iconst f 2 dL_law_1089 kc_2 ?_
  refine g_iadd f dL_law_1090 ?_
  refine g_sld f hx dL_law_1091 h (fun h => ?_)
  obtain ⟨t537, e538, h539⟩ := h
  subst e538
  have h := h539
  obtain ⟨v540, h⟩ := h
  obtain ⟨⟨c543, c543b⟩, h⟩ := h
  refine g_callV f mk_L_138 v540 (c_X10_times h) dL_law_1092 rfl rfl (Nat.le_of_ble_eq_true rfl) (rm_okL (by decide) (by decide)) ⟨c543, c543b⟩ (kI fun r544 μ541 x542 h => ?_)
  refine g_aload_nQ f 2 dL_law_1095 rfl rfl ?_
  refine g_aload_n f 0 dL_law_1096 rfl rfl ?_
  refine g_iload_n f 3 dL_law_1097 rfl rfl ?_
  refine g_iconst f 1 dL_law_1098 kc_1 ?_
  refine g_iadd f dL_law_1099 ?_
  refine g_sld f hx dL_law_1100 h (fun h => ?_)
  refine g_aload_n f 0 dL_law_1101 rfl rfl ?_
  refine g_iload_n f 3 dL_law_1102 rfl rfl ?_
  refine g_iconst f 2 dL_law_1103 kc_2 ?_
  refine g_iadd f dL_law_1104 ?_
  refine g_sld f hx dL_law_1105 h (fun h => ?_)
  obtain ⟨t545, e546, h547⟩ := h
  subst e546
  have h := h547
  obtain ⟨v548, h⟩ := h
  obtain ⟨⟨c551, c551b⟩, h⟩ := h
  refine g_callV f mk_L_141 v548 (c_X11_times h) dL_law_1106 rfl rfl (Nat.le_of_ble_eq_true rfl) (rm_okL (by decide) (by decide)) ⟨c551, c551b⟩ (kI fun r552 μ549 x550 h => ?_)
  refine g_ic_eq f 1814 dL_law_1109 rfl h (fun h => ?_) (fun h => ?_)
  · exact h_sub [0, 1, 2, 3] rfl (tB_L_law_1814 f hx hK18 h)
  · refine g_iconst f 0 dL_law_1112 kc_0 ?_
    obtain ⟨⟨c553, c553b⟩, h⟩ := h
    exact g_lawret f hx c553 c553b rfl dL_law_1113 h
def B_L_law_1114 (L : Nat) (xs : Nat → Int32) (r1 : Option Nat) (r2 : Option Nat) (i3 : Int32) (k j : Nat) (μ : Me) (K18 : Int32 → Nat → Nat → Me → Prop) (Q : Int32 → Me → Prop) : Prop := vp_in (i3 + 1) L ∧ vp_in (i3 + 2) L ∧ ∃ t555, r1 = some t555 ∧ mok μ t555 10 ∧ (k + 0 ≤ 600000 ∧ j + 0 ≤ 7302250) ∧ S_X10_apart t555 (xs (i3 + 1).toNatClampNeg) (xs (i3 + 2).toNatClampNeg) μ (fun r562 μ559 => vp_in (i3 + 1) L ∧ vp_in (i3 + 2) L ∧ ∃ t563, r2 = some t563 ∧ mok μ559 t563 11 ∧ ((k + 0) + 0 ≤ 600000 ∧ (j + 0) + 0 ≤ 7302250) ∧ S_X11_apart t563 (xs (i3 + 1).toNatClampNeg) (xs (i3 + 2).toNatClampNeg) μ559 (fun r570 μ567 => ((r562 = r570 → B_L_law_1814 L xs (some t555) (some t563) i3 ((k + 0) + 0) ((j + 0) + 0) μ567 K18 Q) ∧ (¬ r562 = r570 → (((k + 0) + 0) ≤ 600000 ∧ ((j + 0) + 0) ≤ 7302250) ∧ (0 : Int32) = 1))))
set_option maxHeartbeats 4000000 in
set_option maxRecDepth 100000 in
theorem tB_L_law_1114 {x : GX} {b L : Nat} {xs : Nat → Int32} (f : Fx x cL_law RL 4 room_1) {r1 : Option Nat} {r2 : Option Nat} {i3 : Int32} {k j : Nat} {μ : Me} {Q : Int32 → Me → Prop} (hx : Lx x b L xs) {K18 : Int32 → Nat → Nat → Me → Prop} (hK18 : ∀ (a3 : Int32) (k j : Nat) (ν : Me), K18 a3 k j ν → G x 4 18 [(0, .ref b), (1, vr (gB x) r1), (2, vr (gB x) r2), (3, .int a3)] [] ν k j) (h : B_L_law_1114 L xs r1 r2 i3 k j μ K18 Q) : G x 4 1114 [(0, .ref b), (1, vr (gB x) r1), (2, vr (gB x) r2), (3, .int i3)] [] μ k j := by
  unfold B_L_law_1114 at h
  refine g_aload_nQ f 1 dL_law_1114 rfl rfl ?_
  refine g_aload_n f 0 dL_law_1115 rfl rfl ?_
  refine g_iload_n f 3 dL_law_1116 rfl rfl ?_
  refine g_iconst f 1 dL_law_1117 kc_1 ?_
  refine g_iadd f dL_law_1118 ?_
  refine g_sld f hx dL_law_1119 h (fun h => ?_)
  refine g_aload_n f 0 dL_law_1120 rfl rfl ?_
  refine g_iload_n f 3 dL_law_1121 rfl rfl ?_
  refine g_iconst f 2 dL_law_1122 kc_2 ?_
  refine g_iadd f dL_law_1123 ?_
  refine g_sld f hx dL_law_1124 h (fun h => ?_)
  obtain ⟨t555, e556, h557⟩ := h
  subst e556
  have h := h557
  obtain ⟨v558, h⟩ := h
  obtain ⟨⟨c561, c561b⟩, h⟩ := h
  refine g_callV f mk_L_142 v558 (c_X10_apart h) dL_law_1125 rfl rfl (Nat.le_of_ble_eq_true rfl) (rm_okL (by decide) (by decide)) ⟨c561, c561b⟩ (kI fun r562 μ559 x560 h => ?_)
  refine g_aload_nQ f 2 dL_law_1128 rfl rfl ?_
  refine g_aload_n f 0 dL_law_1129 rfl rfl ?_
  refine g_iload_n f 3 dL_law_1130 rfl rfl ?_
  refine g_iconst f 1 dL_law_1131 kc_1 ?_
  refine g_iadd f dL_law_1132 ?_
  refine g_sld f hx dL_law_1133 h (fun h => ?_)
  refine g_aload_n f 0 dL_law_1134 rfl rfl ?_
  refine g_iload_n f 3 dL_law_1135 rfl rfl ?_
  refine g_iconst f 2 dL_law_1136 kc_2 ?_
  refine g_iadd f dL_law_1137 ?_
  refine g_sld f hx dL_law_1138 h (fun h => ?_)
  obtain ⟨t563, e564, h565⟩ := h
  subst e564
  have h := h565
  obtain ⟨v566, h⟩ := h
  obtain ⟨⟨c569, c569b⟩, h⟩ := h
  refine g_callV f mk_L_145 v566 (c_X11_apart h) dL_law_1139 rfl rfl (Nat.le_of_ble_eq_true rfl) (rm_okL (by decide) (by decide)) ⟨c569, c569b⟩ (kI fun r570 μ567 x568 h => ?_)
  refine g_ic_eq f 1814 dL_law_1142 rfl h (fun h => ?_) (fun h => ?_)
  · exact h_sub [0, 1, 2, 3] rfl (tB_L_law_1814 f hx hK18 h)
  · refine g_iconst f 0 dL_law_1145 kc_0 ?_
    obtain ⟨⟨c571, c571b⟩, h⟩ := h
    exact g_lawret f hx c571 c571b rfl dL_law_1146 h
def B_L_law_1147 (L : Nat) (xs : Nat → Int32) (r1 : Option Nat) (r2 : Option Nat) (i3 : Int32) (k j : Nat) (μ : Me) (K18 : Int32 → Nat → Nat → Me → Prop) (Q : Int32 → Me → Prop) : Prop := ∃ t573, r1 = some t573 ∧ mok μ t573 10 ∧ (k + 0 ≤ 600000 ∧ j + 0 ≤ 7302250) ∧ S_X10_always t573 μ (fun r580 μ577 => ∃ t581, r2 = some t581 ∧ mok μ577 t581 11 ∧ ((k + 0) + 0 ≤ 600000 ∧ (j + 0) + 0 ≤ 7302250) ∧ S_X11_always t581 μ577 (fun r588 μ585 => ((r580 = r588 → B_L_law_1814 L xs (some t573) (some t581) i3 ((k + 0) + 0) ((j + 0) + 0) μ585 K18 Q) ∧ (¬ r580 = r588 → (((k + 0) + 0) ≤ 600000 ∧ ((j + 0) + 0) ≤ 7302250) ∧ (0 : Int32) = 1))))
set_option maxHeartbeats 4000000 in
set_option maxRecDepth 100000 in
theorem tB_L_law_1147 {x : GX} {b L : Nat} {xs : Nat → Int32} (f : Fx x cL_law RL 4 room_1) {r1 : Option Nat} {r2 : Option Nat} {i3 : Int32} {k j : Nat} {μ : Me} {Q : Int32 → Me → Prop} (hx : Lx x b L xs) {K18 : Int32 → Nat → Nat → Me → Prop} (hK18 : ∀ (a3 : Int32) (k j : Nat) (ν : Me), K18 a3 k j ν → G x 4 18 [(0, .ref b), (1, vr (gB x) r1), (2, vr (gB x) r2), (3, .int a3)] [] ν k j) (h : B_L_law_1147 L xs r1 r2 i3 k j μ K18 Q) : G x 4 1147 [(0, .ref b), (1, vr (gB x) r1), (2, vr (gB x) r2), (3, .int i3)] [] μ k j := by
  unfold B_L_law_1147 at h
  refine g_aload_nQ f 1 dL_law_1147 rfl rfl ?_
  obtain ⟨t573, e574, h575⟩ := h
  subst e574
  have h := h575
  obtain ⟨v576, h⟩ := h
  obtain ⟨⟨c579, c579b⟩, h⟩ := h
  refine g_callV f mk_L_146 v576 (c_X10_always h) dL_law_1148 rfl rfl (Nat.le_of_ble_eq_true rfl) (rm_okL (by decide) (by decide)) ⟨c579, c579b⟩ (kI fun r580 μ577 x578 h => ?_)
  refine g_aload_nQ f 2 dL_law_1151 rfl rfl ?_
  obtain ⟨t581, e582, h583⟩ := h
  subst e582
  have h := h583
  obtain ⟨v584, h⟩ := h
  obtain ⟨⟨c587, c587b⟩, h⟩ := h
  refine g_callV f mk_L_149 v584 (c_X11_always h) dL_law_1152 rfl rfl (Nat.le_of_ble_eq_true rfl) (rm_okL (by decide) (by decide)) ⟨c587, c587b⟩ (kI fun r588 μ585 x586 h => ?_)
  refine g_ic_eq f 1814 dL_law_1155 rfl h (fun h => ?_) (fun h => ?_)
  · exact h_sub [0, 1, 2, 3] rfl (tB_L_law_1814 f hx hK18 h)
  · refine g_iconst f 0 dL_law_1158 kc_0 ?_
    obtain ⟨⟨c589, c589b⟩, h⟩ := h
    exact g_lawret f hx c589 c589b rfl dL_law_1159 h
def B_L_law_1191 (L : Nat) (xs : Nat → Int32) (r1 : Option Nat) (r2 : Option Nat) (i3 : Int32) (s0 : Int32) (s1 : Option Nat) (s2 : Int32) (k j : Nat) (μ : Me) (K18 : Int32 → Nat → Nat → Me → Prop) (Q : Int32 → Me → Prop) : Prop := ∃ t599, s1 = some t599 ∧ mok μ t599 11 ∧ (k + 0 ≤ 600000 ∧ j + 0 ≤ 7302250) ∧ S_X11_calm t599 s0 μ (fun r606 μ603 => ((s2 = r606 → B_L_law_1814 L xs r1 r2 i3 (k + 0) (j + 0) μ603 K18 Q) ∧ (¬ s2 = r606 → ((k + 0) ≤ 600000 ∧ (j + 0) ≤ 7302250) ∧ (0 : Int32) = 1)))
set_option maxHeartbeats 4000000 in
set_option maxRecDepth 100000 in
theorem tB_L_law_1191 {x : GX} {b L : Nat} {xs : Nat → Int32} (f : Fx x cL_law RL 4 room_1) {r1 : Option Nat} {r2 : Option Nat} {i3 : Int32} {s0 : Int32} {s1 : Option Nat} {s2 : Int32} {k j : Nat} {μ : Me} {Q : Int32 → Me → Prop} (hx : Lx x b L xs) {K18 : Int32 → Nat → Nat → Me → Prop} (hK18 : ∀ (a3 : Int32) (k j : Nat) (ν : Me), K18 a3 k j ν → G x 4 18 [(0, .ref b), (1, vr (gB x) r1), (2, vr (gB x) r2), (3, .int a3)] [] ν k j) (h : B_L_law_1191 L xs r1 r2 i3 s0 s1 s2 k j μ K18 Q) : G x 4 1191 [(0, .ref b), (1, vr (gB x) r1), (2, vr (gB x) r2), (3, .int i3)] [.int s0, vr (gB x) s1, .int s2] μ k j := by
  unfold B_L_law_1191 at h
  obtain ⟨t599, e600, h601⟩ := h
  subst e600
  have h := h601
  obtain ⟨v602, h⟩ := h
  obtain ⟨⟨c605, c605b⟩, h⟩ := h
  refine g_callV f mk_L_153 v602 (c_X11_calm h) dL_law_1191 rfl rfl (Nat.le_of_ble_eq_true rfl) (rm_okL (by decide) (by decide)) ⟨c605, c605b⟩ (kI fun r606 μ603 x604 h => ?_)
  refine g_ic_eq f 1814 dL_law_1194 rfl h (fun h => ?_) (fun h => ?_)
  · exact h_sub [0, 1, 2, 3] rfl (tB_L_law_1814 f hx hK18 h)
  · refine g_iconst f 0 dL_law_1197 kc_0 ?_
    obtain ⟨⟨c607, c607b⟩, h⟩ := h
    exact g_lawret f hx c607 c607b rfl dL_law_1198 h
def B_L_law_1174 (L : Nat) (xs : Nat → Int32) (r1 : Option Nat) (r2 : Option Nat) (i3 : Int32) (s0 : Int32) (s1 : Option Nat) (k j : Nat) (μ : Me) (K18 : Int32 → Nat → Nat → Me → Prop) (Q : Int32 → Me → Prop) : Prop := ∃ t591, s1 = some t591 ∧ mok μ t591 10 ∧ (k + 0 ≤ 600000 ∧ j + 0 ≤ 7302250) ∧ S_X10_calm t591 s0 μ (fun r598 μ595 => vp_in (i3 + 1) L ∧ (((xs (i3 + 1).toNatClampNeg) = 0 → B_L_law_1191 L xs r1 r2 i3 0 r2 r598 (k + 0) (j + 0) μ595 K18 Q) ∧ (¬ (xs (i3 + 1).toNatClampNeg) = 0 → B_L_law_1191 L xs r1 r2 i3 1 r2 r598 (k + 0) (j + 0) μ595 K18 Q)))
set_option maxHeartbeats 4000000 in
set_option maxRecDepth 100000 in
theorem tB_L_law_1174 {x : GX} {b L : Nat} {xs : Nat → Int32} (f : Fx x cL_law RL 4 room_1) {r1 : Option Nat} {r2 : Option Nat} {i3 : Int32} {s0 : Int32} {s1 : Option Nat} {k j : Nat} {μ : Me} {Q : Int32 → Me → Prop} (hx : Lx x b L xs) {K18 : Int32 → Nat → Nat → Me → Prop} (hK18 : ∀ (a3 : Int32) (k j : Nat) (ν : Me), K18 a3 k j ν → G x 4 18 [(0, .ref b), (1, vr (gB x) r1), (2, vr (gB x) r2), (3, .int a3)] [] ν k j) (h : B_L_law_1174 L xs r1 r2 i3 s0 s1 k j μ K18 Q) : G x 4 1174 [(0, .ref b), (1, vr (gB x) r1), (2, vr (gB x) r2), (3, .int i3)] [.int s0, vr (gB x) s1] μ k j := by
  unfold B_L_law_1174 at h
  obtain ⟨t591, e592, h593⟩ := h
  subst e592
  have h := h593
  obtain ⟨v594, h⟩ := h
  obtain ⟨⟨c597, c597b⟩, h⟩ := h
  refine g_callV f mk_L_150 v594 (c_X10_calm h) dL_law_1174 rfl rfl (Nat.le_of_ble_eq_true rfl) (rm_okL (by decide) (by decide)) ⟨c597, c597b⟩ (kI fun r598 μ595 x596 h => ?_)
  refine g_aload_nQ f 2 dL_law_1177 rfl rfl ?_
  refine g_aload_n f 0 dL_law_1178 rfl rfl ?_
  refine g_iload_n f 3 dL_law_1179 rfl rfl ?_
  refine g_iconst f 1 dL_law_1180 kc_1 ?_
  refine g_iadd f dL_law_1181 ?_
  refine g_sld f hx dL_law_1182 h (fun h => ?_)
  refine g_if_eq f 1190 dL_law_1183 rfl h (fun h => ?_) (fun h => ?_)
  · refine g_iconst f 0 dL_law_1190 kc_0 ?_
    exact h_sub [0, 1, 2, 3] rfl (tB_L_law_1191 f hx hK18 h)
  · refine g_iconst f 1 dL_law_1186 kc_1 ?_
    refine g_goto f 1191 dL_law_1187 rfl ?_
    exact h_sub [0, 1, 2, 3] rfl (tB_L_law_1191 f hx hK18 h)
def B_L_law_1160 (L : Nat) (xs : Nat → Int32) (r1 : Option Nat) (r2 : Option Nat) (i3 : Int32) (k j : Nat) (μ : Me) (K18 : Int32 → Nat → Nat → Me → Prop) (Q : Int32 → Me → Prop) : Prop := vp_in (i3 + 1) L ∧ (((xs (i3 + 1).toNatClampNeg) = 0 → B_L_law_1174 L xs r1 r2 i3 0 r1 k j μ K18 Q) ∧ (¬ (xs (i3 + 1).toNatClampNeg) = 0 → B_L_law_1174 L xs r1 r2 i3 1 r1 k j μ K18 Q))
set_option maxHeartbeats 4000000 in
set_option maxRecDepth 100000 in
theorem tB_L_law_1160 {x : GX} {b L : Nat} {xs : Nat → Int32} (f : Fx x cL_law RL 4 room_1) {r1 : Option Nat} {r2 : Option Nat} {i3 : Int32} {k j : Nat} {μ : Me} {Q : Int32 → Me → Prop} (hx : Lx x b L xs) {K18 : Int32 → Nat → Nat → Me → Prop} (hK18 : ∀ (a3 : Int32) (k j : Nat) (ν : Me), K18 a3 k j ν → G x 4 18 [(0, .ref b), (1, vr (gB x) r1), (2, vr (gB x) r2), (3, .int a3)] [] ν k j) (h : B_L_law_1160 L xs r1 r2 i3 k j μ K18 Q) : G x 4 1160 [(0, .ref b), (1, vr (gB x) r1), (2, vr (gB x) r2), (3, .int i3)] [] μ k j := by
  unfold B_L_law_1160 at h
  refine g_aload_nQ f 1 dL_law_1160 rfl rfl ?_
  refine g_aload_n f 0 dL_law_1161 rfl rfl ?_
  refine g_iload_n f 3 dL_law_1162 rfl rfl ?_
  refine g_iconst f 1 dL_law_1163 kc_1 ?_
  refine g_iadd f dL_law_1164 ?_
  refine g_sld f hx dL_law_1165 h (fun h => ?_)
  refine g_if_eq f 1173 dL_law_1166 rfl h (fun h => ?_) (fun h => ?_)
  · refine g_iconst f 0 dL_law_1173 kc_0 ?_
    exact h_sub [0, 1, 2, 3] rfl (tB_L_law_1174 f hx hK18 h)
  · refine g_iconst f 1 dL_law_1169 kc_1 ?_
    refine g_goto f 1174 dL_law_1170 rfl ?_
    exact h_sub [0, 1, 2, 3] rfl (tB_L_law_1174 f hx hK18 h)
def B_L_law_1240 (L : Nat) (xs : Nat → Int32) (r1 : Option Nat) (r2 : Option Nat) (i3 : Int32) (s0 : Int32) (s1 : Int32) (s2 : Option Nat) (s3 : Int32) (k j : Nat) (μ : Me) (K18 : Int32 → Nat → Nat → Me → Prop) (Q : Int32 → Me → Prop) : Prop := ∃ t617, s2 = some t617 ∧ mok μ t617 11 ∧ (k + 0 ≤ 600000 ∧ j + 0 ≤ 7302250) ∧ S_X11_helped t617 s1 s0 μ (fun r624 μ621 => ((s3 = r624 → B_L_law_1814 L xs r1 r2 i3 (k + 0) (j + 0) μ621 K18 Q) ∧ (¬ s3 = r624 → ((k + 0) ≤ 600000 ∧ (j + 0) ≤ 7302250) ∧ (0 : Int32) = 1)))
set_option maxHeartbeats 4000000 in
set_option maxRecDepth 100000 in
theorem tB_L_law_1240 {x : GX} {b L : Nat} {xs : Nat → Int32} (f : Fx x cL_law RL 4 room_1) {r1 : Option Nat} {r2 : Option Nat} {i3 : Int32} {s0 : Int32} {s1 : Int32} {s2 : Option Nat} {s3 : Int32} {k j : Nat} {μ : Me} {Q : Int32 → Me → Prop} (hx : Lx x b L xs) {K18 : Int32 → Nat → Nat → Me → Prop} (hK18 : ∀ (a3 : Int32) (k j : Nat) (ν : Me), K18 a3 k j ν → G x 4 18 [(0, .ref b), (1, vr (gB x) r1), (2, vr (gB x) r2), (3, .int a3)] [] ν k j) (h : B_L_law_1240 L xs r1 r2 i3 s0 s1 s2 s3 k j μ K18 Q) : G x 4 1240 [(0, .ref b), (1, vr (gB x) r1), (2, vr (gB x) r2), (3, .int i3)] [.int s0, .int s1, vr (gB x) s2, .int s3] μ k j := by
  unfold B_L_law_1240 at h
  obtain ⟨t617, e618, h619⟩ := h
  subst e618
  have h := h619
  obtain ⟨v620, h⟩ := h
  obtain ⟨⟨c623, c623b⟩, h⟩ := h
  refine g_callV f mk_L_158 v620 (c_X11_helped h) dL_law_1240 rfl rfl (Nat.le_of_ble_eq_true rfl) (rm_okL (by decide) (by decide)) ⟨c623, c623b⟩ (kI fun r624 μ621 x622 h => ?_)
  refine g_ic_eq f 1814 dL_law_1243 rfl h (fun h => ?_) (fun h => ?_)
  · exact h_sub [0, 1, 2, 3] rfl (tB_L_law_1814 f hx hK18 h)
  · refine g_iconst f 0 dL_law_1246 kc_0 ?_
    obtain ⟨⟨c625, c625b⟩, h⟩ := h
    exact g_lawret f hx c625 c625b rfl dL_law_1247 h
def B_L_law_1218 (L : Nat) (xs : Nat → Int32) (r1 : Option Nat) (r2 : Option Nat) (i3 : Int32) (s0 : Int32) (s1 : Int32) (s2 : Option Nat) (k j : Nat) (μ : Me) (K18 : Int32 → Nat → Nat → Me → Prop) (Q : Int32 → Me → Prop) : Prop := ∃ t609, s2 = some t609 ∧ mok μ t609 10 ∧ (k + 0 ≤ 600000 ∧ j + 0 ≤ 7302250) ∧ S_X10_helped t609 s1 s0 μ (fun r616 μ613 => vp_in (i3 + 1) L ∧ vp_in (i3 + 2) L ∧ (((xs (i3 + 2).toNatClampNeg) = 0 → B_L_law_1240 L xs r1 r2 i3 0 (xs (i3 + 1).toNatClampNeg) r2 r616 (k + 0) (j + 0) μ613 K18 Q) ∧ (¬ (xs (i3 + 2).toNatClampNeg) = 0 → B_L_law_1240 L xs r1 r2 i3 1 (xs (i3 + 1).toNatClampNeg) r2 r616 (k + 0) (j + 0) μ613 K18 Q)))
set_option maxHeartbeats 4000000 in
set_option maxRecDepth 100000 in
theorem tB_L_law_1218 {x : GX} {b L : Nat} {xs : Nat → Int32} (f : Fx x cL_law RL 4 room_1) {r1 : Option Nat} {r2 : Option Nat} {i3 : Int32} {s0 : Int32} {s1 : Int32} {s2 : Option Nat} {k j : Nat} {μ : Me} {Q : Int32 → Me → Prop} (hx : Lx x b L xs) {K18 : Int32 → Nat → Nat → Me → Prop} (hK18 : ∀ (a3 : Int32) (k j : Nat) (ν : Me), K18 a3 k j ν → G x 4 18 [(0, .ref b), (1, vr (gB x) r1), (2, vr (gB x) r2), (3, .int a3)] [] ν k j) (h : B_L_law_1218 L xs r1 r2 i3 s0 s1 s2 k j μ K18 Q) : G x 4 1218 [(0, .ref b), (1, vr (gB x) r1), (2, vr (gB x) r2), (3, .int i3)] [.int s0, .int s1, vr (gB x) s2] μ k j := by
  unfold B_L_law_1218 at h
  obtain ⟨t609, e610, h611⟩ := h
  subst e610
  have h := h611
  obtain ⟨v612, h⟩ := h
  obtain ⟨⟨c615, c615b⟩, h⟩ := h
  refine g_callV f mk_L_154 v612 (c_X10_helped h) dL_law_1218 rfl rfl (Nat.le_of_ble_eq_true rfl) (rm_okL (by decide) (by decide)) ⟨c615, c615b⟩ (kI fun r616 μ613 x614 h => ?_)
  refine g_aload_nQ f 2 dL_law_1221 rfl rfl ?_
  refine g_aload_n f 0 dL_law_1222 rfl rfl ?_
  refine g_iload_n f 3 dL_law_1223 rfl rfl ?_
  refine g_iconst f 1 dL_law_1224 kc_1 ?_
  refine g_iadd f dL_law_1225 ?_
  refine g_sld f hx dL_law_1226 h (fun h => ?_)
  refine g_aload_n f 0 dL_law_1227 rfl rfl ?_
  refine g_iload_n f 3 dL_law_1228 rfl rfl ?_
  refine g_iconst f 2 dL_law_1229 kc_2 ?_
  refine g_iadd f dL_law_1230 ?_
  refine g_sld f hx dL_law_1231 h (fun h => ?_)
  refine g_if_eq f 1239 dL_law_1232 rfl h (fun h => ?_) (fun h => ?_)
  · refine g_iconst f 0 dL_law_1239 kc_0 ?_
    exact h_sub [0, 1, 2, 3] rfl (tB_L_law_1240 f hx hK18 h)
  · refine g_iconst f 1 dL_law_1235 kc_1 ?_
    refine g_goto f 1240 dL_law_1236 rfl ?_
    exact h_sub [0, 1, 2, 3] rfl (tB_L_law_1240 f hx hK18 h)
def B_L_law_1199 (L : Nat) (xs : Nat → Int32) (r1 : Option Nat) (r2 : Option Nat) (i3 : Int32) (k j : Nat) (μ : Me) (K18 : Int32 → Nat → Nat → Me → Prop) (Q : Int32 → Me → Prop) : Prop := vp_in (i3 + 1) L ∧ vp_in (i3 + 2) L ∧ (((xs (i3 + 2).toNatClampNeg) = 0 → B_L_law_1218 L xs r1 r2 i3 0 (xs (i3 + 1).toNatClampNeg) r1 k j μ K18 Q) ∧ (¬ (xs (i3 + 2).toNatClampNeg) = 0 → B_L_law_1218 L xs r1 r2 i3 1 (xs (i3 + 1).toNatClampNeg) r1 k j μ K18 Q))
set_option maxHeartbeats 4000000 in
set_option maxRecDepth 100000 in
theorem tB_L_law_1199 {x : GX} {b L : Nat} {xs : Nat → Int32} (f : Fx x cL_law RL 4 room_1) {r1 : Option Nat} {r2 : Option Nat} {i3 : Int32} {k j : Nat} {μ : Me} {Q : Int32 → Me → Prop} (hx : Lx x b L xs) {K18 : Int32 → Nat → Nat → Me → Prop} (hK18 : ∀ (a3 : Int32) (k j : Nat) (ν : Me), K18 a3 k j ν → G x 4 18 [(0, .ref b), (1, vr (gB x) r1), (2, vr (gB x) r2), (3, .int a3)] [] ν k j) (h : B_L_law_1199 L xs r1 r2 i3 k j μ K18 Q) : G x 4 1199 [(0, .ref b), (1, vr (gB x) r1), (2, vr (gB x) r2), (3, .int i3)] [] μ k j := by
  unfold B_L_law_1199 at h
  refine g_aload_nQ f 1 dL_law_1199 rfl rfl ?_
  refine g_aload_n f 0 dL_law_1200 rfl rfl ?_
  refine g_iload_n f 3 dL_law_1201 rfl rfl ?_
  refine g_iconst f 1 dL_law_1202 kc_1 ?_
  refine g_iadd f dL_law_1203 ?_
  refine g_sld f hx dL_law_1204 h (fun h => ?_)
  refine g_aload_n f 0 dL_law_1205 rfl rfl ?_
  refine g_iload_n f 3 dL_law_1206 rfl rfl ?_
  refine g_iconst f 2 dL_law_1207 kc_2 ?_
  refine g_iadd f dL_law_1208 ?_
  refine g_sld f hx dL_law_1209 h (fun h => ?_)
  refine g_if_eq f 1217 dL_law_1210 rfl h (fun h => ?_) (fun h => ?_)
  · refine g_iconst f 0 dL_law_1217 kc_0 ?_
    exact h_sub [0, 1, 2, 3] rfl (tB_L_law_1218 f hx hK18 h)
  · refine g_iconst f 1 dL_law_1213 kc_1 ?_
    refine g_goto f 1218 dL_law_1214 rfl ?_
    exact h_sub [0, 1, 2, 3] rfl (tB_L_law_1218 f hx hK18 h)
def B_L_law_1248 (L : Nat) (xs : Nat → Int32) (r1 : Option Nat) (r2 : Option Nat) (i3 : Int32) (k j : Nat) (μ : Me) (K18 : Int32 → Nat → Nat → Me → Prop) (Q : Int32 → Me → Prop) : Prop := vp_in (i3 + 1) L ∧ ∃ t627, r1 = some t627 ∧ mok μ t627 10 ∧ (k + 0 ≤ 600000 ∧ j + 0 ≤ 7302250) ∧ S_X10_early t627 (xs (i3 + 1).toNatClampNeg) μ (fun r634 μ631 => vp_in (i3 + 1) L ∧ ∃ t635, r2 = some t635 ∧ mok μ631 t635 11 ∧ ((k + 0) + 0 ≤ 600000 ∧ (j + 0) + 0 ≤ 7302250) ∧ S_X11_early t635 (xs (i3 + 1).toNatClampNeg) μ631 (fun r642 μ639 => ((r634 = r642 → B_L_law_1814 L xs (some t627) (some t635) i3 ((k + 0) + 0) ((j + 0) + 0) μ639 K18 Q) ∧ (¬ r634 = r642 → (((k + 0) + 0) ≤ 600000 ∧ ((j + 0) + 0) ≤ 7302250) ∧ (0 : Int32) = 1))))
set_option maxHeartbeats 4000000 in
set_option maxRecDepth 100000 in
theorem tB_L_law_1248 {x : GX} {b L : Nat} {xs : Nat → Int32} (f : Fx x cL_law RL 4 room_1) {r1 : Option Nat} {r2 : Option Nat} {i3 : Int32} {k j : Nat} {μ : Me} {Q : Int32 → Me → Prop} (hx : Lx x b L xs) {K18 : Int32 → Nat → Nat → Me → Prop} (hK18 : ∀ (a3 : Int32) (k j : Nat) (ν : Me), K18 a3 k j ν → G x 4 18 [(0, .ref b), (1, vr (gB x) r1), (2, vr (gB x) r2), (3, .int a3)] [] ν k j) (h : B_L_law_1248 L xs r1 r2 i3 k j μ K18 Q) : G x 4 1248 [(0, .ref b), (1, vr (gB x) r1), (2, vr (gB x) r2), (3, .int i3)] [] μ k j := by
  unfold B_L_law_1248 at h
  refine g_aload_nQ f 1 dL_law_1248 rfl rfl ?_
  refine g_aload_n f 0 dL_law_1249 rfl rfl ?_
  refine g_iload_n f 3 dL_law_1250 rfl rfl ?_
  refine g_iconst f 1 dL_law_1251 kc_1 ?_
  refine g_iadd f dL_law_1252 ?_
  refine g_sld f hx dL_law_1253 h (fun h => ?_)
  obtain ⟨t627, e628, h629⟩ := h
  subst e628
  have h := h629
  obtain ⟨v630, h⟩ := h
  obtain ⟨⟨c633, c633b⟩, h⟩ := h
  refine g_callV f mk_L_159 v630 (c_X10_early h) dL_law_1254 rfl rfl (Nat.le_of_ble_eq_true rfl) (rm_okL (by decide) (by decide)) ⟨c633, c633b⟩ (kI fun r634 μ631 x632 h => ?_)
  refine g_aload_nQ f 2 dL_law_1257 rfl rfl ?_
  refine g_aload_n f 0 dL_law_1258 rfl rfl ?_
  refine g_iload_n f 3 dL_law_1259 rfl rfl ?_
  refine g_iconst f 1 dL_law_1260 kc_1 ?_
  refine g_iadd f dL_law_1261 ?_
  refine g_sld f hx dL_law_1262 h (fun h => ?_)
  obtain ⟨t635, e636, h637⟩ := h
  subst e636
  have h := h637
  obtain ⟨v638, h⟩ := h
  obtain ⟨⟨c641, c641b⟩, h⟩ := h
  refine g_callV f mk_L_162 v638 (c_X11_early h) dL_law_1263 rfl rfl (Nat.le_of_ble_eq_true rfl) (rm_okL (by decide) (by decide)) ⟨c641, c641b⟩ (kI fun r642 μ639 x640 h => ?_)
  refine g_ic_eq f 1814 dL_law_1266 rfl h (fun h => ?_) (fun h => ?_)
  · exact h_sub [0, 1, 2, 3] rfl (tB_L_law_1814 f hx hK18 h)
  · refine g_iconst f 0 dL_law_1269 kc_0 ?_
    obtain ⟨⟨c643, c643b⟩, h⟩ := h
    exact g_lawret f hx c643 c643b rfl dL_law_1270 h
def B_L_law_1271 (L : Nat) (xs : Nat → Int32) (r1 : Option Nat) (r2 : Option Nat) (i3 : Int32) (k j : Nat) (μ : Me) (K18 : Int32 → Nat → Nat → Me → Prop) (Q : Int32 → Me → Prop) : Prop := vp_in (i3 + 1) L ∧ ∃ t645, r1 = some t645 ∧ mok μ t645 10 ∧ (k + 0 ≤ 600000 ∧ j + 0 ≤ 7302250) ∧ S_X10_weathers t645 (xs (i3 + 1).toNatClampNeg) μ (fun r652 μ649 => vp_in (i3 + 1) L ∧ ∃ t653, r2 = some t653 ∧ mok μ649 t653 11 ∧ ((k + 0) + 0 ≤ 600000 ∧ (j + 0) + 0 ≤ 7302250) ∧ S_X11_weathers t653 (xs (i3 + 1).toNatClampNeg) μ649 (fun r660 μ657 => ((r652 = r660 → B_L_law_1814 L xs (some t645) (some t653) i3 ((k + 0) + 0) ((j + 0) + 0) μ657 K18 Q) ∧ (¬ r652 = r660 → (((k + 0) + 0) ≤ 600000 ∧ ((j + 0) + 0) ≤ 7302250) ∧ (0 : Int32) = 1))))
set_option maxHeartbeats 4000000 in
set_option maxRecDepth 100000 in
theorem tB_L_law_1271 {x : GX} {b L : Nat} {xs : Nat → Int32} (f : Fx x cL_law RL 4 room_1) {r1 : Option Nat} {r2 : Option Nat} {i3 : Int32} {k j : Nat} {μ : Me} {Q : Int32 → Me → Prop} (hx : Lx x b L xs) {K18 : Int32 → Nat → Nat → Me → Prop} (hK18 : ∀ (a3 : Int32) (k j : Nat) (ν : Me), K18 a3 k j ν → G x 4 18 [(0, .ref b), (1, vr (gB x) r1), (2, vr (gB x) r2), (3, .int a3)] [] ν k j) (h : B_L_law_1271 L xs r1 r2 i3 k j μ K18 Q) : G x 4 1271 [(0, .ref b), (1, vr (gB x) r1), (2, vr (gB x) r2), (3, .int i3)] [] μ k j := by
  unfold B_L_law_1271 at h
  refine g_aload_nQ f 1 dL_law_1271 rfl rfl ?_
  refine g_aload_n f 0 dL_law_1272 rfl rfl ?_
  refine g_iload_n f 3 dL_law_1273 rfl rfl ?_
  refine g_iconst f 1 dL_law_1274 kc_1 ?_
  refine g_iadd f dL_law_1275 ?_
  refine g_sld f hx dL_law_1276 h (fun h => ?_)
  obtain ⟨t645, e646, h647⟩ := h
  subst e646
  have h := h647
  obtain ⟨v648, h⟩ := h
  obtain ⟨⟨c651, c651b⟩, h⟩ := h
  refine g_callV f mk_L_163 v648 (c_X10_weathers h) dL_law_1277 rfl rfl (Nat.le_of_ble_eq_true rfl) (rm_okL (by decide) (by decide)) ⟨c651, c651b⟩ (kI fun r652 μ649 x650 h => ?_)
  refine g_aload_nQ f 2 dL_law_1280 rfl rfl ?_
  refine g_aload_n f 0 dL_law_1281 rfl rfl ?_
  refine g_iload_n f 3 dL_law_1282 rfl rfl ?_
  refine g_iconst f 1 dL_law_1283 kc_1 ?_
  refine g_iadd f dL_law_1284 ?_
  refine g_sld f hx dL_law_1285 h (fun h => ?_)
  obtain ⟨t653, e654, h655⟩ := h
  subst e654
  have h := h655
  obtain ⟨v656, h⟩ := h
  obtain ⟨⟨c659, c659b⟩, h⟩ := h
  refine g_callV f mk_L_166 v656 (c_X11_weathers h) dL_law_1286 rfl rfl (Nat.le_of_ble_eq_true rfl) (rm_okL (by decide) (by decide)) ⟨c659, c659b⟩ (kI fun r660 μ657 x658 h => ?_)
  refine g_ic_eq f 1814 dL_law_1289 rfl h (fun h => ?_) (fun h => ?_)
  · exact h_sub [0, 1, 2, 3] rfl (tB_L_law_1814 f hx hK18 h)
  · refine g_iconst f 0 dL_law_1292 kc_0 ?_
    obtain ⟨⟨c661, c661b⟩, h⟩ := h
    exact g_lawret f hx c661 c661b rfl dL_law_1293 h
def B_L_law_1294 (L : Nat) (xs : Nat → Int32) (r1 : Option Nat) (r2 : Option Nat) (i3 : Int32) (k j : Nat) (μ : Me) (K18 : Int32 → Nat → Nat → Me → Prop) (Q : Int32 → Me → Prop) : Prop := ∃ t663, r1 = some t663 ∧ mok μ t663 10 ∧ (k + 0 ≤ 600000 ∧ j + 0 ≤ 7302250) ∧ S_X10_needless t663 μ (fun r670 μ667 => ∃ t671, r2 = some t671 ∧ mok μ667 t671 11 ∧ ((k + 0) + 0 ≤ 600000 ∧ (j + 0) + 0 ≤ 7302250) ∧ S_X11_needless t671 μ667 (fun r678 μ675 => ((r670 = r678 → B_L_law_1814 L xs (some t663) (some t671) i3 ((k + 0) + 0) ((j + 0) + 0) μ675 K18 Q) ∧ (¬ r670 = r678 → (((k + 0) + 0) ≤ 600000 ∧ ((j + 0) + 0) ≤ 7302250) ∧ (0 : Int32) = 1))))
set_option maxHeartbeats 4000000 in
set_option maxRecDepth 100000 in
theorem tB_L_law_1294 {x : GX} {b L : Nat} {xs : Nat → Int32} (f : Fx x cL_law RL 4 room_1) {r1 : Option Nat} {r2 : Option Nat} {i3 : Int32} {k j : Nat} {μ : Me} {Q : Int32 → Me → Prop} (hx : Lx x b L xs) {K18 : Int32 → Nat → Nat → Me → Prop} (hK18 : ∀ (a3 : Int32) (k j : Nat) (ν : Me), K18 a3 k j ν → G x 4 18 [(0, .ref b), (1, vr (gB x) r1), (2, vr (gB x) r2), (3, .int a3)] [] ν k j) (h : B_L_law_1294 L xs r1 r2 i3 k j μ K18 Q) : G x 4 1294 [(0, .ref b), (1, vr (gB x) r1), (2, vr (gB x) r2), (3, .int i3)] [] μ k j := by
  unfold B_L_law_1294 at h
  refine g_aload_nQ f 1 dL_law_1294 rfl rfl ?_
  obtain ⟨t663, e664, h665⟩ := h
  subst e664
  have h := h665
  obtain ⟨v666, h⟩ := h
  obtain ⟨⟨c669, c669b⟩, h⟩ := h
  refine g_callV f mk_L_167 v666 (c_X10_needless h) dL_law_1295 rfl rfl (Nat.le_of_ble_eq_true rfl) (rm_okL (by decide) (by decide)) ⟨c669, c669b⟩ (kI fun r670 μ667 x668 h => ?_)
  refine g_aload_nQ f 2 dL_law_1298 rfl rfl ?_
  obtain ⟨t671, e672, h673⟩ := h
  subst e672
  have h := h673
  obtain ⟨v674, h⟩ := h
  obtain ⟨⟨c677, c677b⟩, h⟩ := h
  refine g_callV f mk_L_170 v674 (c_X11_needless h) dL_law_1299 rfl rfl (Nat.le_of_ble_eq_true rfl) (rm_okL (by decide) (by decide)) ⟨c677, c677b⟩ (kI fun r678 μ675 x676 h => ?_)
  refine g_ic_eq f 1814 dL_law_1302 rfl h (fun h => ?_) (fun h => ?_)
  · exact h_sub [0, 1, 2, 3] rfl (tB_L_law_1814 f hx hK18 h)
  · refine g_iconst f 0 dL_law_1305 kc_0 ?_
    obtain ⟨⟨c679, c679b⟩, h⟩ := h
    exact g_lawret f hx c679 c679b rfl dL_law_1306 h
def B_L_law_1307 (L : Nat) (xs : Nat → Int32) (r1 : Option Nat) (r2 : Option Nat) (i3 : Int32) (k j : Nat) (μ : Me) (K18 : Int32 → Nat → Nat → Me → Prop) (Q : Int32 → Me → Prop) : Prop := vp_in (i3 + 1) L ∧ ∃ t681, r1 = some t681 ∧ mok μ t681 10 ∧ (k + 0 ≤ 600000 ∧ j + 0 ≤ 7302250) ∧ S_X10_lateness t681 (xs (i3 + 1).toNatClampNeg) μ (fun r688 μ685 => vp_in (i3 + 1) L ∧ ∃ t689, r2 = some t689 ∧ mok μ685 t689 11 ∧ ((k + 0) + 0 ≤ 600000 ∧ (j + 0) + 0 ≤ 7302250) ∧ S_X11_lateness t689 (xs (i3 + 1).toNatClampNeg) μ685 (fun r696 μ693 => ((r688 = r696 → B_L_law_1814 L xs (some t681) (some t689) i3 ((k + 0) + 0) ((j + 0) + 0) μ693 K18 Q) ∧ (¬ r688 = r696 → (((k + 0) + 0) ≤ 600000 ∧ ((j + 0) + 0) ≤ 7302250) ∧ (0 : Int32) = 1))))
set_option maxHeartbeats 4000000 in
set_option maxRecDepth 100000 in
theorem tB_L_law_1307 {x : GX} {b L : Nat} {xs : Nat → Int32} (f : Fx x cL_law RL 4 room_1) {r1 : Option Nat} {r2 : Option Nat} {i3 : Int32} {k j : Nat} {μ : Me} {Q : Int32 → Me → Prop} (hx : Lx x b L xs) {K18 : Int32 → Nat → Nat → Me → Prop} (hK18 : ∀ (a3 : Int32) (k j : Nat) (ν : Me), K18 a3 k j ν → G x 4 18 [(0, .ref b), (1, vr (gB x) r1), (2, vr (gB x) r2), (3, .int a3)] [] ν k j) (h : B_L_law_1307 L xs r1 r2 i3 k j μ K18 Q) : G x 4 1307 [(0, .ref b), (1, vr (gB x) r1), (2, vr (gB x) r2), (3, .int i3)] [] μ k j := by
  unfold B_L_law_1307 at h
  refine g_aload_nQ f 1 dL_law_1307 rfl rfl ?_
  refine g_aload_n f 0 dL_law_1308 rfl rfl ?_
  refine g_iload_n f 3 dL_law_1309 rfl rfl ?_
  refine g_iconst f 1 dL_law_1310 kc_1 ?_
  refine g_iadd f dL_law_1311 ?_
  refine g_sld f hx dL_law_1312 h (fun h => ?_)
  obtain ⟨t681, e682, h683⟩ := h
  subst e682
  have h := h683
  obtain ⟨v684, h⟩ := h
  obtain ⟨⟨c687, c687b⟩, h⟩ := h
  refine g_callV f mk_L_171 v684 (c_X10_lateness h) dL_law_1313 rfl rfl (Nat.le_of_ble_eq_true rfl) (rm_okL (by decide) (by decide)) ⟨c687, c687b⟩ (kI fun r688 μ685 x686 h => ?_)
  refine g_aload_nQ f 2 dL_law_1316 rfl rfl ?_
  refine g_aload_n f 0 dL_law_1317 rfl rfl ?_
  refine g_iload_n f 3 dL_law_1318 rfl rfl ?_
  refine g_iconst f 1 dL_law_1319 kc_1 ?_
  refine g_iadd f dL_law_1320 ?_
  refine g_sld f hx dL_law_1321 h (fun h => ?_)
  obtain ⟨t689, e690, h691⟩ := h
  subst e690
  have h := h691
  obtain ⟨v692, h⟩ := h
  obtain ⟨⟨c695, c695b⟩, h⟩ := h
  refine g_callV f mk_L_174 v692 (c_X11_lateness h) dL_law_1322 rfl rfl (Nat.le_of_ble_eq_true rfl) (rm_okL (by decide) (by decide)) ⟨c695, c695b⟩ (kI fun r696 μ693 x694 h => ?_)
  refine g_ic_eq f 1814 dL_law_1325 rfl h (fun h => ?_) (fun h => ?_)
  · exact h_sub [0, 1, 2, 3] rfl (tB_L_law_1814 f hx hK18 h)
  · refine g_iconst f 0 dL_law_1328 kc_0 ?_
    obtain ⟨⟨c697, c697b⟩, h⟩ := h
    exact g_lawret f hx c697 c697b rfl dL_law_1329 h
def B_L_law_1371 (L : Nat) (xs : Nat → Int32) (r1 : Option Nat) (r2 : Option Nat) (i3 : Int32) (s0 : Int32) (s1 : Int32) (s2 : Option Nat) (s3 : Int32) (k j : Nat) (μ : Me) (K18 : Int32 → Nat → Nat → Me → Prop) (Q : Int32 → Me → Prop) : Prop := ∃ t707, s2 = some t707 ∧ mok μ t707 11 ∧ (k + 0 ≤ 600000 ∧ j + 0 ≤ 7302250) ∧ S_X11_race t707 s1 s0 μ (fun r714 μ711 => ((s3 = r714 → B_L_law_1814 L xs r1 r2 i3 (k + 0) (j + 0) μ711 K18 Q) ∧ (¬ s3 = r714 → ((k + 0) ≤ 600000 ∧ (j + 0) ≤ 7302250) ∧ (0 : Int32) = 1)))
set_option maxHeartbeats 4000000 in
set_option maxRecDepth 100000 in
theorem tB_L_law_1371 {x : GX} {b L : Nat} {xs : Nat → Int32} (f : Fx x cL_law RL 4 room_1) {r1 : Option Nat} {r2 : Option Nat} {i3 : Int32} {s0 : Int32} {s1 : Int32} {s2 : Option Nat} {s3 : Int32} {k j : Nat} {μ : Me} {Q : Int32 → Me → Prop} (hx : Lx x b L xs) {K18 : Int32 → Nat → Nat → Me → Prop} (hK18 : ∀ (a3 : Int32) (k j : Nat) (ν : Me), K18 a3 k j ν → G x 4 18 [(0, .ref b), (1, vr (gB x) r1), (2, vr (gB x) r2), (3, .int a3)] [] ν k j) (h : B_L_law_1371 L xs r1 r2 i3 s0 s1 s2 s3 k j μ K18 Q) : G x 4 1371 [(0, .ref b), (1, vr (gB x) r1), (2, vr (gB x) r2), (3, .int i3)] [.int s0, .int s1, vr (gB x) s2, .int s3] μ k j := by
  unfold B_L_law_1371 at h
  obtain ⟨t707, e708, h709⟩ := h
  subst e708
  have h := h709
  obtain ⟨v710, h⟩ := h
  obtain ⟨⟨c713, c713b⟩, h⟩ := h
  refine g_callV f mk_L_178 v710 (c_X11_race h) dL_law_1371 rfl rfl (Nat.le_of_ble_eq_true rfl) (rm_okL (by decide) (by decide)) ⟨c713, c713b⟩ (kI fun r714 μ711 x712 h => ?_)
  refine g_ic_eq f 1814 dL_law_1374 rfl h (fun h => ?_) (fun h => ?_)
  · exact h_sub [0, 1, 2, 3] rfl (tB_L_law_1814 f hx hK18 h)
  · refine g_iconst f 0 dL_law_1377 kc_0 ?_
    obtain ⟨⟨c715, c715b⟩, h⟩ := h
    exact g_lawret f hx c715 c715b rfl dL_law_1378 h
def B_L_law_1349 (L : Nat) (xs : Nat → Int32) (r1 : Option Nat) (r2 : Option Nat) (i3 : Int32) (s0 : Int32) (s1 : Int32) (s2 : Option Nat) (k j : Nat) (μ : Me) (K18 : Int32 → Nat → Nat → Me → Prop) (Q : Int32 → Me → Prop) : Prop := ∃ t699, s2 = some t699 ∧ mok μ t699 10 ∧ (k + 0 ≤ 600000 ∧ j + 0 ≤ 7302250) ∧ S_X10_race t699 s1 s0 μ (fun r706 μ703 => vp_in (i3 + 1) L ∧ vp_in (i3 + 2) L ∧ (((xs (i3 + 2).toNatClampNeg) = 0 → B_L_law_1371 L xs r1 r2 i3 0 (xs (i3 + 1).toNatClampNeg) r2 r706 (k + 0) (j + 0) μ703 K18 Q) ∧ (¬ (xs (i3 + 2).toNatClampNeg) = 0 → B_L_law_1371 L xs r1 r2 i3 1 (xs (i3 + 1).toNatClampNeg) r2 r706 (k + 0) (j + 0) μ703 K18 Q)))
set_option maxHeartbeats 4000000 in
set_option maxRecDepth 100000 in
theorem tB_L_law_1349 {x : GX} {b L : Nat} {xs : Nat → Int32} (f : Fx x cL_law RL 4 room_1) {r1 : Option Nat} {r2 : Option Nat} {i3 : Int32} {s0 : Int32} {s1 : Int32} {s2 : Option Nat} {k j : Nat} {μ : Me} {Q : Int32 → Me → Prop} (hx : Lx x b L xs) {K18 : Int32 → Nat → Nat → Me → Prop} (hK18 : ∀ (a3 : Int32) (k j : Nat) (ν : Me), K18 a3 k j ν → G x 4 18 [(0, .ref b), (1, vr (gB x) r1), (2, vr (gB x) r2), (3, .int a3)] [] ν k j) (h : B_L_law_1349 L xs r1 r2 i3 s0 s1 s2 k j μ K18 Q) : G x 4 1349 [(0, .ref b), (1, vr (gB x) r1), (2, vr (gB x) r2), (3, .int i3)] [.int s0, .int s1, vr (gB x) s2] μ k j := by
  unfold B_L_law_1349 at h
  obtain ⟨t699, e700, h701⟩ := h
  subst e700
  have h := h701
  obtain ⟨v702, h⟩ := h
  obtain ⟨⟨c705, c705b⟩, h⟩ := h
  refine g_callV f mk_L_175 v702 (c_X10_race h) dL_law_1349 rfl rfl (Nat.le_of_ble_eq_true rfl) (rm_okL (by decide) (by decide)) ⟨c705, c705b⟩ (kI fun r706 μ703 x704 h => ?_)
  refine g_aload_nQ f 2 dL_law_1352 rfl rfl ?_
  refine g_aload_n f 0 dL_law_1353 rfl rfl ?_
  refine g_iload_n f 3 dL_law_1354 rfl rfl ?_
  refine g_iconst f 1 dL_law_1355 kc_1 ?_
  refine g_iadd f dL_law_1356 ?_
  refine g_sld f hx dL_law_1357 h (fun h => ?_)
  refine g_aload_n f 0 dL_law_1358 rfl rfl ?_
  refine g_iload_n f 3 dL_law_1359 rfl rfl ?_
  refine g_iconst f 2 dL_law_1360 kc_2 ?_
  refine g_iadd f dL_law_1361 ?_
  refine g_sld f hx dL_law_1362 h (fun h => ?_)
  refine g_if_eq f 1370 dL_law_1363 rfl h (fun h => ?_) (fun h => ?_)
  · refine g_iconst f 0 dL_law_1370 kc_0 ?_
    exact h_sub [0, 1, 2, 3] rfl (tB_L_law_1371 f hx hK18 h)
  · refine g_iconst f 1 dL_law_1366 kc_1 ?_
    refine g_goto f 1371 dL_law_1367 rfl ?_
    exact h_sub [0, 1, 2, 3] rfl (tB_L_law_1371 f hx hK18 h)
def B_L_law_1330 (L : Nat) (xs : Nat → Int32) (r1 : Option Nat) (r2 : Option Nat) (i3 : Int32) (k j : Nat) (μ : Me) (K18 : Int32 → Nat → Nat → Me → Prop) (Q : Int32 → Me → Prop) : Prop := vp_in (i3 + 1) L ∧ vp_in (i3 + 2) L ∧ (((xs (i3 + 2).toNatClampNeg) = 0 → B_L_law_1349 L xs r1 r2 i3 0 (xs (i3 + 1).toNatClampNeg) r1 k j μ K18 Q) ∧ (¬ (xs (i3 + 2).toNatClampNeg) = 0 → B_L_law_1349 L xs r1 r2 i3 1 (xs (i3 + 1).toNatClampNeg) r1 k j μ K18 Q))
set_option maxHeartbeats 4000000 in
set_option maxRecDepth 100000 in
theorem tB_L_law_1330 {x : GX} {b L : Nat} {xs : Nat → Int32} (f : Fx x cL_law RL 4 room_1) {r1 : Option Nat} {r2 : Option Nat} {i3 : Int32} {k j : Nat} {μ : Me} {Q : Int32 → Me → Prop} (hx : Lx x b L xs) {K18 : Int32 → Nat → Nat → Me → Prop} (hK18 : ∀ (a3 : Int32) (k j : Nat) (ν : Me), K18 a3 k j ν → G x 4 18 [(0, .ref b), (1, vr (gB x) r1), (2, vr (gB x) r2), (3, .int a3)] [] ν k j) (h : B_L_law_1330 L xs r1 r2 i3 k j μ K18 Q) : G x 4 1330 [(0, .ref b), (1, vr (gB x) r1), (2, vr (gB x) r2), (3, .int i3)] [] μ k j := by
  unfold B_L_law_1330 at h
  refine g_aload_nQ f 1 dL_law_1330 rfl rfl ?_
  refine g_aload_n f 0 dL_law_1331 rfl rfl ?_
  refine g_iload_n f 3 dL_law_1332 rfl rfl ?_
  refine g_iconst f 1 dL_law_1333 kc_1 ?_
  refine g_iadd f dL_law_1334 ?_
  refine g_sld f hx dL_law_1335 h (fun h => ?_)
  refine g_aload_n f 0 dL_law_1336 rfl rfl ?_
  refine g_iload_n f 3 dL_law_1337 rfl rfl ?_
  refine g_iconst f 2 dL_law_1338 kc_2 ?_
  refine g_iadd f dL_law_1339 ?_
  refine g_sld f hx dL_law_1340 h (fun h => ?_)
  refine g_if_eq f 1348 dL_law_1341 rfl h (fun h => ?_) (fun h => ?_)
  · refine g_iconst f 0 dL_law_1348 kc_0 ?_
    exact h_sub [0, 1, 2, 3] rfl (tB_L_law_1349 f hx hK18 h)
  · refine g_iconst f 1 dL_law_1344 kc_1 ?_
    refine g_goto f 1349 dL_law_1345 rfl ?_
    exact h_sub [0, 1, 2, 3] rfl (tB_L_law_1349 f hx hK18 h)
def B_L_law_1420 (L : Nat) (xs : Nat → Int32) (r1 : Option Nat) (r2 : Option Nat) (i3 : Int32) (s0 : Int32) (s1 : Int32) (s2 : Option Nat) (s3 : Int32) (k j : Nat) (μ : Me) (K18 : Int32 → Nat → Nat → Me → Prop) (Q : Int32 → Me → Prop) : Prop := ∃ t725, s2 = some t725 ∧ mok μ t725 11 ∧ (k + 0 ≤ 600000 ∧ j + 0 ≤ 7302250) ∧ S_X11_heard t725 s1 s0 μ (fun r732 μ729 => ((s3 = r732 → B_L_law_1814 L xs r1 r2 i3 (k + 0) (j + 0) μ729 K18 Q) ∧ (¬ s3 = r732 → ((k + 0) ≤ 600000 ∧ (j + 0) ≤ 7302250) ∧ (0 : Int32) = 1)))
set_option maxHeartbeats 4000000 in
set_option maxRecDepth 100000 in
theorem tB_L_law_1420 {x : GX} {b L : Nat} {xs : Nat → Int32} (f : Fx x cL_law RL 4 room_1) {r1 : Option Nat} {r2 : Option Nat} {i3 : Int32} {s0 : Int32} {s1 : Int32} {s2 : Option Nat} {s3 : Int32} {k j : Nat} {μ : Me} {Q : Int32 → Me → Prop} (hx : Lx x b L xs) {K18 : Int32 → Nat → Nat → Me → Prop} (hK18 : ∀ (a3 : Int32) (k j : Nat) (ν : Me), K18 a3 k j ν → G x 4 18 [(0, .ref b), (1, vr (gB x) r1), (2, vr (gB x) r2), (3, .int a3)] [] ν k j) (h : B_L_law_1420 L xs r1 r2 i3 s0 s1 s2 s3 k j μ K18 Q) : G x 4 1420 [(0, .ref b), (1, vr (gB x) r1), (2, vr (gB x) r2), (3, .int i3)] [.int s0, .int s1, vr (gB x) s2, .int s3] μ k j := by
  unfold B_L_law_1420 at h
  obtain ⟨t725, e726, h727⟩ := h
  subst e726
  have h := h727
  obtain ⟨v728, h⟩ := h
  obtain ⟨⟨c731, c731b⟩, h⟩ := h
  refine g_callV f mk_L_182 v728 (c_X11_heard h) dL_law_1420 rfl rfl (Nat.le_of_ble_eq_true rfl) (rm_okL (by decide) (by decide)) ⟨c731, c731b⟩ (kI fun r732 μ729 x730 h => ?_)
  refine g_ic_eq f 1814 dL_law_1423 rfl h (fun h => ?_) (fun h => ?_)
  · exact h_sub [0, 1, 2, 3] rfl (tB_L_law_1814 f hx hK18 h)
  · refine g_iconst f 0 dL_law_1426 kc_0 ?_
    obtain ⟨⟨c733, c733b⟩, h⟩ := h
    exact g_lawret f hx c733 c733b rfl dL_law_1427 h
def B_L_law_1398 (L : Nat) (xs : Nat → Int32) (r1 : Option Nat) (r2 : Option Nat) (i3 : Int32) (s0 : Int32) (s1 : Int32) (s2 : Option Nat) (k j : Nat) (μ : Me) (K18 : Int32 → Nat → Nat → Me → Prop) (Q : Int32 → Me → Prop) : Prop := ∃ t717, s2 = some t717 ∧ mok μ t717 10 ∧ (k + 0 ≤ 600000 ∧ j + 0 ≤ 7302250) ∧ S_X10_heard t717 s1 s0 μ (fun r724 μ721 => vp_in (i3 + 1) L ∧ vp_in (i3 + 2) L ∧ (((xs (i3 + 2).toNatClampNeg) = 0 → B_L_law_1420 L xs r1 r2 i3 0 (xs (i3 + 1).toNatClampNeg) r2 r724 (k + 0) (j + 0) μ721 K18 Q) ∧ (¬ (xs (i3 + 2).toNatClampNeg) = 0 → B_L_law_1420 L xs r1 r2 i3 1 (xs (i3 + 1).toNatClampNeg) r2 r724 (k + 0) (j + 0) μ721 K18 Q)))
set_option maxHeartbeats 4000000 in
set_option maxRecDepth 100000 in
theorem tB_L_law_1398 {x : GX} {b L : Nat} {xs : Nat → Int32} (f : Fx x cL_law RL 4 room_1) {r1 : Option Nat} {r2 : Option Nat} {i3 : Int32} {s0 : Int32} {s1 : Int32} {s2 : Option Nat} {k j : Nat} {μ : Me} {Q : Int32 → Me → Prop} (hx : Lx x b L xs) {K18 : Int32 → Nat → Nat → Me → Prop} (hK18 : ∀ (a3 : Int32) (k j : Nat) (ν : Me), K18 a3 k j ν → G x 4 18 [(0, .ref b), (1, vr (gB x) r1), (2, vr (gB x) r2), (3, .int a3)] [] ν k j) (h : B_L_law_1398 L xs r1 r2 i3 s0 s1 s2 k j μ K18 Q) : G x 4 1398 [(0, .ref b), (1, vr (gB x) r1), (2, vr (gB x) r2), (3, .int i3)] [.int s0, .int s1, vr (gB x) s2] μ k j := by
  unfold B_L_law_1398 at h
  obtain ⟨t717, e718, h719⟩ := h
  subst e718
  have h := h719
  obtain ⟨v720, h⟩ := h
  obtain ⟨⟨c723, c723b⟩, h⟩ := h
  refine g_callV f mk_L_179 v720 (c_X10_heard h) dL_law_1398 rfl rfl (Nat.le_of_ble_eq_true rfl) (rm_okL (by decide) (by decide)) ⟨c723, c723b⟩ (kI fun r724 μ721 x722 h => ?_)
  refine g_aload_nQ f 2 dL_law_1401 rfl rfl ?_
  refine g_aload_n f 0 dL_law_1402 rfl rfl ?_
  refine g_iload_n f 3 dL_law_1403 rfl rfl ?_
  refine g_iconst f 1 dL_law_1404 kc_1 ?_
  refine g_iadd f dL_law_1405 ?_
  refine g_sld f hx dL_law_1406 h (fun h => ?_)
  refine g_aload_n f 0 dL_law_1407 rfl rfl ?_
  refine g_iload_n f 3 dL_law_1408 rfl rfl ?_
  refine g_iconst f 2 dL_law_1409 kc_2 ?_
  refine g_iadd f dL_law_1410 ?_
  refine g_sld f hx dL_law_1411 h (fun h => ?_)
  refine g_if_eq f 1419 dL_law_1412 rfl h (fun h => ?_) (fun h => ?_)
  · refine g_iconst f 0 dL_law_1419 kc_0 ?_
    exact h_sub [0, 1, 2, 3] rfl (tB_L_law_1420 f hx hK18 h)
  · refine g_iconst f 1 dL_law_1415 kc_1 ?_
    refine g_goto f 1420 dL_law_1416 rfl ?_
    exact h_sub [0, 1, 2, 3] rfl (tB_L_law_1420 f hx hK18 h)
def B_L_law_1379 (L : Nat) (xs : Nat → Int32) (r1 : Option Nat) (r2 : Option Nat) (i3 : Int32) (k j : Nat) (μ : Me) (K18 : Int32 → Nat → Nat → Me → Prop) (Q : Int32 → Me → Prop) : Prop := vp_in (i3 + 1) L ∧ vp_in (i3 + 2) L ∧ (((xs (i3 + 2).toNatClampNeg) = 0 → B_L_law_1398 L xs r1 r2 i3 0 (xs (i3 + 1).toNatClampNeg) r1 k j μ K18 Q) ∧ (¬ (xs (i3 + 2).toNatClampNeg) = 0 → B_L_law_1398 L xs r1 r2 i3 1 (xs (i3 + 1).toNatClampNeg) r1 k j μ K18 Q))
set_option maxHeartbeats 4000000 in
set_option maxRecDepth 100000 in
theorem tB_L_law_1379 {x : GX} {b L : Nat} {xs : Nat → Int32} (f : Fx x cL_law RL 4 room_1) {r1 : Option Nat} {r2 : Option Nat} {i3 : Int32} {k j : Nat} {μ : Me} {Q : Int32 → Me → Prop} (hx : Lx x b L xs) {K18 : Int32 → Nat → Nat → Me → Prop} (hK18 : ∀ (a3 : Int32) (k j : Nat) (ν : Me), K18 a3 k j ν → G x 4 18 [(0, .ref b), (1, vr (gB x) r1), (2, vr (gB x) r2), (3, .int a3)] [] ν k j) (h : B_L_law_1379 L xs r1 r2 i3 k j μ K18 Q) : G x 4 1379 [(0, .ref b), (1, vr (gB x) r1), (2, vr (gB x) r2), (3, .int i3)] [] μ k j := by
  unfold B_L_law_1379 at h
  refine g_aload_nQ f 1 dL_law_1379 rfl rfl ?_
  refine g_aload_n f 0 dL_law_1380 rfl rfl ?_
  refine g_iload_n f 3 dL_law_1381 rfl rfl ?_
  refine g_iconst f 1 dL_law_1382 kc_1 ?_
  refine g_iadd f dL_law_1383 ?_
  refine g_sld f hx dL_law_1384 h (fun h => ?_)
  refine g_aload_n f 0 dL_law_1385 rfl rfl ?_
  refine g_iload_n f 3 dL_law_1386 rfl rfl ?_
  refine g_iconst f 2 dL_law_1387 kc_2 ?_
  refine g_iadd f dL_law_1388 ?_
  refine g_sld f hx dL_law_1389 h (fun h => ?_)
  refine g_if_eq f 1397 dL_law_1390 rfl h (fun h => ?_) (fun h => ?_)
  · refine g_iconst f 0 dL_law_1397 kc_0 ?_
    exact h_sub [0, 1, 2, 3] rfl (tB_L_law_1398 f hx hK18 h)
  · refine g_iconst f 1 dL_law_1393 kc_1 ?_
    refine g_goto f 1398 dL_law_1394 rfl ?_
    exact h_sub [0, 1, 2, 3] rfl (tB_L_law_1398 f hx hK18 h)
def B_L_law_1469 (L : Nat) (xs : Nat → Int32) (r1 : Option Nat) (r2 : Option Nat) (i3 : Int32) (s0 : Int32) (s1 : Int32) (s2 : Option Nat) (s3 : Int32) (k j : Nat) (μ : Me) (K18 : Int32 → Nat → Nat → Me → Prop) (Q : Int32 → Me → Prop) : Prop := ∃ t743, s2 = some t743 ∧ mok μ t743 11 ∧ (k + 0 ≤ 600000 ∧ j + 0 ≤ 7302250) ∧ S_X11_believes t743 s1 s0 μ (fun r750 μ747 => ((s3 = r750 → B_L_law_1814 L xs r1 r2 i3 (k + 0) (j + 0) μ747 K18 Q) ∧ (¬ s3 = r750 → ((k + 0) ≤ 600000 ∧ (j + 0) ≤ 7302250) ∧ (0 : Int32) = 1)))
set_option maxHeartbeats 4000000 in
set_option maxRecDepth 100000 in
theorem tB_L_law_1469 {x : GX} {b L : Nat} {xs : Nat → Int32} (f : Fx x cL_law RL 4 room_1) {r1 : Option Nat} {r2 : Option Nat} {i3 : Int32} {s0 : Int32} {s1 : Int32} {s2 : Option Nat} {s3 : Int32} {k j : Nat} {μ : Me} {Q : Int32 → Me → Prop} (hx : Lx x b L xs) {K18 : Int32 → Nat → Nat → Me → Prop} (hK18 : ∀ (a3 : Int32) (k j : Nat) (ν : Me), K18 a3 k j ν → G x 4 18 [(0, .ref b), (1, vr (gB x) r1), (2, vr (gB x) r2), (3, .int a3)] [] ν k j) (h : B_L_law_1469 L xs r1 r2 i3 s0 s1 s2 s3 k j μ K18 Q) : G x 4 1469 [(0, .ref b), (1, vr (gB x) r1), (2, vr (gB x) r2), (3, .int i3)] [.int s0, .int s1, vr (gB x) s2, .int s3] μ k j := by
  unfold B_L_law_1469 at h
  obtain ⟨t743, e744, h745⟩ := h
  subst e744
  have h := h745
  obtain ⟨v746, h⟩ := h
  obtain ⟨⟨c749, c749b⟩, h⟩ := h
  refine g_callV f mk_L_186 v746 (c_X11_believes h) dL_law_1469 rfl rfl (Nat.le_of_ble_eq_true rfl) (rm_okL (by decide) (by decide)) ⟨c749, c749b⟩ (kI fun r750 μ747 x748 h => ?_)
  refine g_ic_eq f 1814 dL_law_1472 rfl h (fun h => ?_) (fun h => ?_)
  · exact h_sub [0, 1, 2, 3] rfl (tB_L_law_1814 f hx hK18 h)
  · refine g_iconst f 0 dL_law_1475 kc_0 ?_
    obtain ⟨⟨c751, c751b⟩, h⟩ := h
    exact g_lawret f hx c751 c751b rfl dL_law_1476 h
def B_L_law_1447 (L : Nat) (xs : Nat → Int32) (r1 : Option Nat) (r2 : Option Nat) (i3 : Int32) (s0 : Int32) (s1 : Int32) (s2 : Option Nat) (k j : Nat) (μ : Me) (K18 : Int32 → Nat → Nat → Me → Prop) (Q : Int32 → Me → Prop) : Prop := ∃ t735, s2 = some t735 ∧ mok μ t735 10 ∧ (k + 0 ≤ 600000 ∧ j + 0 ≤ 7302250) ∧ S_X10_believes t735 s1 s0 μ (fun r742 μ739 => vp_in (i3 + 1) L ∧ vp_in (i3 + 2) L ∧ (((xs (i3 + 2).toNatClampNeg) = 0 → B_L_law_1469 L xs r1 r2 i3 0 (xs (i3 + 1).toNatClampNeg) r2 r742 (k + 0) (j + 0) μ739 K18 Q) ∧ (¬ (xs (i3 + 2).toNatClampNeg) = 0 → B_L_law_1469 L xs r1 r2 i3 1 (xs (i3 + 1).toNatClampNeg) r2 r742 (k + 0) (j + 0) μ739 K18 Q)))
set_option maxHeartbeats 4000000 in
set_option maxRecDepth 100000 in
theorem tB_L_law_1447 {x : GX} {b L : Nat} {xs : Nat → Int32} (f : Fx x cL_law RL 4 room_1) {r1 : Option Nat} {r2 : Option Nat} {i3 : Int32} {s0 : Int32} {s1 : Int32} {s2 : Option Nat} {k j : Nat} {μ : Me} {Q : Int32 → Me → Prop} (hx : Lx x b L xs) {K18 : Int32 → Nat → Nat → Me → Prop} (hK18 : ∀ (a3 : Int32) (k j : Nat) (ν : Me), K18 a3 k j ν → G x 4 18 [(0, .ref b), (1, vr (gB x) r1), (2, vr (gB x) r2), (3, .int a3)] [] ν k j) (h : B_L_law_1447 L xs r1 r2 i3 s0 s1 s2 k j μ K18 Q) : G x 4 1447 [(0, .ref b), (1, vr (gB x) r1), (2, vr (gB x) r2), (3, .int i3)] [.int s0, .int s1, vr (gB x) s2] μ k j := by
  unfold B_L_law_1447 at h
  obtain ⟨t735, e736, h737⟩ := h
  subst e736
  have h := h737
  obtain ⟨v738, h⟩ := h
  obtain ⟨⟨c741, c741b⟩, h⟩ := h
  refine g_callV f mk_L_183 v738 (c_X10_believes h) dL_law_1447 rfl rfl (Nat.le_of_ble_eq_true rfl) (rm_okL (by decide) (by decide)) ⟨c741, c741b⟩ (kI fun r742 μ739 x740 h => ?_)
  refine g_aload_nQ f 2 dL_law_1450 rfl rfl ?_
  refine g_aload_n f 0 dL_law_1451 rfl rfl ?_
  refine g_iload_n f 3 dL_law_1452 rfl rfl ?_
  refine g_iconst f 1 dL_law_1453 kc_1 ?_
  refine g_iadd f dL_law_1454 ?_
  refine g_sld f hx dL_law_1455 h (fun h => ?_)
  refine g_aload_n f 0 dL_law_1456 rfl rfl ?_
  refine g_iload_n f 3 dL_law_1457 rfl rfl ?_
  refine g_iconst f 2 dL_law_1458 kc_2 ?_
  refine g_iadd f dL_law_1459 ?_
  refine g_sld f hx dL_law_1460 h (fun h => ?_)
  refine g_if_eq f 1468 dL_law_1461 rfl h (fun h => ?_) (fun h => ?_)
  · refine g_iconst f 0 dL_law_1468 kc_0 ?_
    exact h_sub [0, 1, 2, 3] rfl (tB_L_law_1469 f hx hK18 h)
  · refine g_iconst f 1 dL_law_1464 kc_1 ?_
    refine g_goto f 1469 dL_law_1465 rfl ?_
    exact h_sub [0, 1, 2, 3] rfl (tB_L_law_1469 f hx hK18 h)
def B_L_law_1428 (L : Nat) (xs : Nat → Int32) (r1 : Option Nat) (r2 : Option Nat) (i3 : Int32) (k j : Nat) (μ : Me) (K18 : Int32 → Nat → Nat → Me → Prop) (Q : Int32 → Me → Prop) : Prop := vp_in (i3 + 1) L ∧ vp_in (i3 + 2) L ∧ (((xs (i3 + 2).toNatClampNeg) = 0 → B_L_law_1447 L xs r1 r2 i3 0 (xs (i3 + 1).toNatClampNeg) r1 k j μ K18 Q) ∧ (¬ (xs (i3 + 2).toNatClampNeg) = 0 → B_L_law_1447 L xs r1 r2 i3 1 (xs (i3 + 1).toNatClampNeg) r1 k j μ K18 Q))
set_option maxHeartbeats 4000000 in
set_option maxRecDepth 100000 in
theorem tB_L_law_1428 {x : GX} {b L : Nat} {xs : Nat → Int32} (f : Fx x cL_law RL 4 room_1) {r1 : Option Nat} {r2 : Option Nat} {i3 : Int32} {k j : Nat} {μ : Me} {Q : Int32 → Me → Prop} (hx : Lx x b L xs) {K18 : Int32 → Nat → Nat → Me → Prop} (hK18 : ∀ (a3 : Int32) (k j : Nat) (ν : Me), K18 a3 k j ν → G x 4 18 [(0, .ref b), (1, vr (gB x) r1), (2, vr (gB x) r2), (3, .int a3)] [] ν k j) (h : B_L_law_1428 L xs r1 r2 i3 k j μ K18 Q) : G x 4 1428 [(0, .ref b), (1, vr (gB x) r1), (2, vr (gB x) r2), (3, .int i3)] [] μ k j := by
  unfold B_L_law_1428 at h
  refine g_aload_nQ f 1 dL_law_1428 rfl rfl ?_
  refine g_aload_n f 0 dL_law_1429 rfl rfl ?_
  refine g_iload_n f 3 dL_law_1430 rfl rfl ?_
  refine g_iconst f 1 dL_law_1431 kc_1 ?_
  refine g_iadd f dL_law_1432 ?_
  refine g_sld f hx dL_law_1433 h (fun h => ?_)
  refine g_aload_n f 0 dL_law_1434 rfl rfl ?_
  refine g_iload_n f 3 dL_law_1435 rfl rfl ?_
  refine g_iconst f 2 dL_law_1436 kc_2 ?_
  refine g_iadd f dL_law_1437 ?_
  refine g_sld f hx dL_law_1438 h (fun h => ?_)
  refine g_if_eq f 1446 dL_law_1439 rfl h (fun h => ?_) (fun h => ?_)
  · refine g_iconst f 0 dL_law_1446 kc_0 ?_
    exact h_sub [0, 1, 2, 3] rfl (tB_L_law_1447 f hx hK18 h)
  · refine g_iconst f 1 dL_law_1442 kc_1 ?_
    refine g_goto f 1447 dL_law_1443 rfl ?_
    exact h_sub [0, 1, 2, 3] rfl (tB_L_law_1447 f hx hK18 h)
def B_L_law_1508 (L : Nat) (xs : Nat → Int32) (r1 : Option Nat) (r2 : Option Nat) (i3 : Int32) (s0 : Int32) (s1 : Option Nat) (s2 : Int32) (k j : Nat) (μ : Me) (K18 : Int32 → Nat → Nat → Me → Prop) (Q : Int32 → Me → Prop) : Prop := ∃ t761, s1 = some t761 ∧ mok μ t761 11 ∧ (k + 0 ≤ 600000 ∧ j + 0 ≤ 7302250) ∧ S_X11_sure t761 s0 μ (fun r768 μ765 => ((s2 = r768 → B_L_law_1814 L xs r1 r2 i3 (k + 0) (j + 0) μ765 K18 Q) ∧ (¬ s2 = r768 → ((k + 0) ≤ 600000 ∧ (j + 0) ≤ 7302250) ∧ (0 : Int32) = 1)))
set_option maxHeartbeats 4000000 in
set_option maxRecDepth 100000 in
theorem tB_L_law_1508 {x : GX} {b L : Nat} {xs : Nat → Int32} (f : Fx x cL_law RL 4 room_1) {r1 : Option Nat} {r2 : Option Nat} {i3 : Int32} {s0 : Int32} {s1 : Option Nat} {s2 : Int32} {k j : Nat} {μ : Me} {Q : Int32 → Me → Prop} (hx : Lx x b L xs) {K18 : Int32 → Nat → Nat → Me → Prop} (hK18 : ∀ (a3 : Int32) (k j : Nat) (ν : Me), K18 a3 k j ν → G x 4 18 [(0, .ref b), (1, vr (gB x) r1), (2, vr (gB x) r2), (3, .int a3)] [] ν k j) (h : B_L_law_1508 L xs r1 r2 i3 s0 s1 s2 k j μ K18 Q) : G x 4 1508 [(0, .ref b), (1, vr (gB x) r1), (2, vr (gB x) r2), (3, .int i3)] [.int s0, vr (gB x) s1, .int s2] μ k j := by
  unfold B_L_law_1508 at h
  obtain ⟨t761, e762, h763⟩ := h
  subst e762
  have h := h763
  obtain ⟨v764, h⟩ := h
  obtain ⟨⟨c767, c767b⟩, h⟩ := h
  refine g_callV f mk_L_190 v764 (c_X11_sure h) dL_law_1508 rfl rfl (Nat.le_of_ble_eq_true rfl) (rm_okL (by decide) (by decide)) ⟨c767, c767b⟩ (kI fun r768 μ765 x766 h => ?_)
  refine g_ic_eq f 1814 dL_law_1511 rfl h (fun h => ?_) (fun h => ?_)
  · exact h_sub [0, 1, 2, 3] rfl (tB_L_law_1814 f hx hK18 h)
  · refine g_iconst f 0 dL_law_1514 kc_0 ?_
    obtain ⟨⟨c769, c769b⟩, h⟩ := h
    exact g_lawret f hx c769 c769b rfl dL_law_1515 h
def B_L_law_1491 (L : Nat) (xs : Nat → Int32) (r1 : Option Nat) (r2 : Option Nat) (i3 : Int32) (s0 : Int32) (s1 : Option Nat) (k j : Nat) (μ : Me) (K18 : Int32 → Nat → Nat → Me → Prop) (Q : Int32 → Me → Prop) : Prop := ∃ t753, s1 = some t753 ∧ mok μ t753 10 ∧ (k + 0 ≤ 600000 ∧ j + 0 ≤ 7302250) ∧ S_X10_sure t753 s0 μ (fun r760 μ757 => vp_in (i3 + 1) L ∧ (((xs (i3 + 1).toNatClampNeg) = 0 → B_L_law_1508 L xs r1 r2 i3 0 r2 r760 (k + 0) (j + 0) μ757 K18 Q) ∧ (¬ (xs (i3 + 1).toNatClampNeg) = 0 → B_L_law_1508 L xs r1 r2 i3 1 r2 r760 (k + 0) (j + 0) μ757 K18 Q)))
set_option maxHeartbeats 4000000 in
set_option maxRecDepth 100000 in
theorem tB_L_law_1491 {x : GX} {b L : Nat} {xs : Nat → Int32} (f : Fx x cL_law RL 4 room_1) {r1 : Option Nat} {r2 : Option Nat} {i3 : Int32} {s0 : Int32} {s1 : Option Nat} {k j : Nat} {μ : Me} {Q : Int32 → Me → Prop} (hx : Lx x b L xs) {K18 : Int32 → Nat → Nat → Me → Prop} (hK18 : ∀ (a3 : Int32) (k j : Nat) (ν : Me), K18 a3 k j ν → G x 4 18 [(0, .ref b), (1, vr (gB x) r1), (2, vr (gB x) r2), (3, .int a3)] [] ν k j) (h : B_L_law_1491 L xs r1 r2 i3 s0 s1 k j μ K18 Q) : G x 4 1491 [(0, .ref b), (1, vr (gB x) r1), (2, vr (gB x) r2), (3, .int i3)] [.int s0, vr (gB x) s1] μ k j := by
  unfold B_L_law_1491 at h
  obtain ⟨t753, e754, h755⟩ := h
  subst e754
  have h := h755
  obtain ⟨v756, h⟩ := h
  obtain ⟨⟨c759, c759b⟩, h⟩ := h
  refine g_callV f mk_L_187 v756 (c_X10_sure h) dL_law_1491 rfl rfl (Nat.le_of_ble_eq_true rfl) (rm_okL (by decide) (by decide)) ⟨c759, c759b⟩ (kI fun r760 μ757 x758 h => ?_)
  refine g_aload_nQ f 2 dL_law_1494 rfl rfl ?_
  refine g_aload_n f 0 dL_law_1495 rfl rfl ?_
  refine g_iload_n f 3 dL_law_1496 rfl rfl ?_
  refine g_iconst f 1 dL_law_1497 kc_1 ?_
  refine g_iadd f dL_law_1498 ?_
  refine g_sld f hx dL_law_1499 h (fun h => ?_)
  refine g_if_eq f 1507 dL_law_1500 rfl h (fun h => ?_) (fun h => ?_)
  · refine g_iconst f 0 dL_law_1507 kc_0 ?_
    exact h_sub [0, 1, 2, 3] rfl (tB_L_law_1508 f hx hK18 h)
  · refine g_iconst f 1 dL_law_1503 kc_1 ?_
    refine g_goto f 1508 dL_law_1504 rfl ?_
    exact h_sub [0, 1, 2, 3] rfl (tB_L_law_1508 f hx hK18 h)
def B_L_law_1477 (L : Nat) (xs : Nat → Int32) (r1 : Option Nat) (r2 : Option Nat) (i3 : Int32) (k j : Nat) (μ : Me) (K18 : Int32 → Nat → Nat → Me → Prop) (Q : Int32 → Me → Prop) : Prop := vp_in (i3 + 1) L ∧ (((xs (i3 + 1).toNatClampNeg) = 0 → B_L_law_1491 L xs r1 r2 i3 0 r1 k j μ K18 Q) ∧ (¬ (xs (i3 + 1).toNatClampNeg) = 0 → B_L_law_1491 L xs r1 r2 i3 1 r1 k j μ K18 Q))
set_option maxHeartbeats 4000000 in
set_option maxRecDepth 100000 in
theorem tB_L_law_1477 {x : GX} {b L : Nat} {xs : Nat → Int32} (f : Fx x cL_law RL 4 room_1) {r1 : Option Nat} {r2 : Option Nat} {i3 : Int32} {k j : Nat} {μ : Me} {Q : Int32 → Me → Prop} (hx : Lx x b L xs) {K18 : Int32 → Nat → Nat → Me → Prop} (hK18 : ∀ (a3 : Int32) (k j : Nat) (ν : Me), K18 a3 k j ν → G x 4 18 [(0, .ref b), (1, vr (gB x) r1), (2, vr (gB x) r2), (3, .int a3)] [] ν k j) (h : B_L_law_1477 L xs r1 r2 i3 k j μ K18 Q) : G x 4 1477 [(0, .ref b), (1, vr (gB x) r1), (2, vr (gB x) r2), (3, .int i3)] [] μ k j := by
  unfold B_L_law_1477 at h
  refine g_aload_nQ f 1 dL_law_1477 rfl rfl ?_
  refine g_aload_n f 0 dL_law_1478 rfl rfl ?_
  refine g_iload_n f 3 dL_law_1479 rfl rfl ?_
  refine g_iconst f 1 dL_law_1480 kc_1 ?_
  refine g_iadd f dL_law_1481 ?_
  refine g_sld f hx dL_law_1482 h (fun h => ?_)
  refine g_if_eq f 1490 dL_law_1483 rfl h (fun h => ?_) (fun h => ?_)
  · refine g_iconst f 0 dL_law_1490 kc_0 ?_
    exact h_sub [0, 1, 2, 3] rfl (tB_L_law_1491 f hx hK18 h)
  · refine g_iconst f 1 dL_law_1486 kc_1 ?_
    refine g_goto f 1491 dL_law_1487 rfl ?_
    exact h_sub [0, 1, 2, 3] rfl (tB_L_law_1491 f hx hK18 h)
def B_L_law_1516 (L : Nat) (xs : Nat → Int32) (r1 : Option Nat) (r2 : Option Nat) (i3 : Int32) (k j : Nat) (μ : Me) (K18 : Int32 → Nat → Nat → Me → Prop) (Q : Int32 → Me → Prop) : Prop := vp_in (i3 + 1) L ∧ ∃ t771, r1 = some t771 ∧ mok μ t771 10 ∧ (k + 1 ≤ 600000 ∧ j + 4096 ≤ 7302250) ∧ S_X10_tells t771 (xs (i3 + 1).toNatClampNeg) μ (fun r778 μ775 => vp_in (i3 + 1) L ∧ ∃ t779, r2 = some t779 ∧ mok μ775 t779 11 ∧ ((k + 1) + 0 ≤ 600000 ∧ (j + 4096) + 0 ≤ 7302250) ∧ S_X11_tells t779 (xs (i3 + 1).toNatClampNeg) μ775 (fun r786 μ783 => ((r778 = r786 → B_L_law_1814 L xs (some t771) (some t779) i3 ((k + 1) + 0) ((j + 4096) + 0) μ783 K18 Q) ∧ (¬ r778 = r786 → (((k + 1) + 0) ≤ 600000 ∧ ((j + 4096) + 0) ≤ 7302250) ∧ (0 : Int32) = 1))))
set_option maxHeartbeats 4000000 in
set_option maxRecDepth 100000 in
theorem tB_L_law_1516 {x : GX} {b L : Nat} {xs : Nat → Int32} (f : Fx x cL_law RL 4 room_1) {r1 : Option Nat} {r2 : Option Nat} {i3 : Int32} {k j : Nat} {μ : Me} {Q : Int32 → Me → Prop} (hx : Lx x b L xs) {K18 : Int32 → Nat → Nat → Me → Prop} (hK18 : ∀ (a3 : Int32) (k j : Nat) (ν : Me), K18 a3 k j ν → G x 4 18 [(0, .ref b), (1, vr (gB x) r1), (2, vr (gB x) r2), (3, .int a3)] [] ν k j) (h : B_L_law_1516 L xs r1 r2 i3 k j μ K18 Q) : G x 4 1516 [(0, .ref b), (1, vr (gB x) r1), (2, vr (gB x) r2), (3, .int i3)] [] μ k j := by
  unfold B_L_law_1516 at h
  refine g_aload_nQ f 1 dL_law_1516 rfl rfl ?_
  refine g_aload_n f 0 dL_law_1517 rfl rfl ?_
  refine g_iload_n f 3 dL_law_1518 rfl rfl ?_
  refine g_iconst f 1 dL_law_1519 kc_1 ?_
  refine g_iadd f dL_law_1520 ?_
  refine g_sld f hx dL_law_1521 h (fun h => ?_)
  obtain ⟨t771, e772, h773⟩ := h
  subst e772
  have h := h773
  obtain ⟨v774, h⟩ := h
  obtain ⟨⟨c777, c777b⟩, h⟩ := h
  refine g_callV f mk_L_191 v774 (c_X10_tells h) dL_law_1522 rfl rfl (Nat.le_of_ble_eq_true rfl) (rm_okL (by decide) (by decide)) ⟨c777, c777b⟩ (kI fun r778 μ775 x776 h => ?_)
  refine g_aload_nQ f 2 dL_law_1525 rfl rfl ?_
  refine g_aload_n f 0 dL_law_1526 rfl rfl ?_
  refine g_iload_n f 3 dL_law_1527 rfl rfl ?_
  refine g_iconst f 1 dL_law_1528 kc_1 ?_
  refine g_iadd f dL_law_1529 ?_
  refine g_sld f hx dL_law_1530 h (fun h => ?_)
  obtain ⟨t779, e780, h781⟩ := h
  subst e780
  have h := h781
  obtain ⟨v782, h⟩ := h
  obtain ⟨⟨c785, c785b⟩, h⟩ := h
  refine g_callV f mk_L_194 v782 (c_X11_tells h) dL_law_1531 rfl rfl (Nat.le_of_ble_eq_true rfl) (rm_okL (by decide) (by decide)) ⟨c785, c785b⟩ (kI fun r786 μ783 x784 h => ?_)
  refine g_ic_eq f 1814 dL_law_1534 rfl h (fun h => ?_) (fun h => ?_)
  · exact h_sub [0, 1, 2, 3] rfl (tB_L_law_1814 f hx hK18 h)
  · refine g_iconst f 0 dL_law_1537 kc_0 ?_
    obtain ⟨⟨c787, c787b⟩, h⟩ := h
    exact g_lawret f hx c787 c787b rfl dL_law_1538 h
def B_L_law_1570 (L : Nat) (xs : Nat → Int32) (r1 : Option Nat) (r2 : Option Nat) (i3 : Int32) (s0 : Int32) (s1 : Option Nat) (s2 : Int32) (k j : Nat) (μ : Me) (K18 : Int32 → Nat → Nat → Me → Prop) (Q : Int32 → Me → Prop) : Prop := ∃ t797, s1 = some t797 ∧ mok μ t797 11 ∧ (k + 0 ≤ 600000 ∧ j + 0 ≤ 7302250) ∧ S_X11_asleep t797 s0 μ (fun r804 μ801 => ((s2 = r804 → B_L_law_1814 L xs r1 r2 i3 (k + 0) (j + 0) μ801 K18 Q) ∧ (¬ s2 = r804 → ((k + 0) ≤ 600000 ∧ (j + 0) ≤ 7302250) ∧ (0 : Int32) = 1)))
set_option maxHeartbeats 4000000 in
set_option maxRecDepth 100000 in
theorem tB_L_law_1570 {x : GX} {b L : Nat} {xs : Nat → Int32} (f : Fx x cL_law RL 4 room_1) {r1 : Option Nat} {r2 : Option Nat} {i3 : Int32} {s0 : Int32} {s1 : Option Nat} {s2 : Int32} {k j : Nat} {μ : Me} {Q : Int32 → Me → Prop} (hx : Lx x b L xs) {K18 : Int32 → Nat → Nat → Me → Prop} (hK18 : ∀ (a3 : Int32) (k j : Nat) (ν : Me), K18 a3 k j ν → G x 4 18 [(0, .ref b), (1, vr (gB x) r1), (2, vr (gB x) r2), (3, .int a3)] [] ν k j) (h : B_L_law_1570 L xs r1 r2 i3 s0 s1 s2 k j μ K18 Q) : G x 4 1570 [(0, .ref b), (1, vr (gB x) r1), (2, vr (gB x) r2), (3, .int i3)] [.int s0, vr (gB x) s1, .int s2] μ k j := by
  unfold B_L_law_1570 at h
  obtain ⟨t797, e798, h799⟩ := h
  subst e798
  have h := h799
  obtain ⟨v800, h⟩ := h
  obtain ⟨⟨c803, c803b⟩, h⟩ := h
  refine g_callV f mk_L_198 v800 (c_X11_asleep h) dL_law_1570 rfl rfl (Nat.le_of_ble_eq_true rfl) (rm_okL (by decide) (by decide)) ⟨c803, c803b⟩ (kI fun r804 μ801 x802 h => ?_)
  refine g_ic_eq f 1814 dL_law_1573 rfl h (fun h => ?_) (fun h => ?_)
  · exact h_sub [0, 1, 2, 3] rfl (tB_L_law_1814 f hx hK18 h)
  · refine g_iconst f 0 dL_law_1576 kc_0 ?_
    obtain ⟨⟨c805, c805b⟩, h⟩ := h
    exact g_lawret f hx c805 c805b rfl dL_law_1577 h
def B_L_law_1553 (L : Nat) (xs : Nat → Int32) (r1 : Option Nat) (r2 : Option Nat) (i3 : Int32) (s0 : Int32) (s1 : Option Nat) (k j : Nat) (μ : Me) (K18 : Int32 → Nat → Nat → Me → Prop) (Q : Int32 → Me → Prop) : Prop := ∃ t789, s1 = some t789 ∧ mok μ t789 10 ∧ (k + 0 ≤ 600000 ∧ j + 0 ≤ 7302250) ∧ S_X10_asleep t789 s0 μ (fun r796 μ793 => vp_in (i3 + 1) L ∧ (((xs (i3 + 1).toNatClampNeg) = 0 → B_L_law_1570 L xs r1 r2 i3 0 r2 r796 (k + 0) (j + 0) μ793 K18 Q) ∧ (¬ (xs (i3 + 1).toNatClampNeg) = 0 → B_L_law_1570 L xs r1 r2 i3 1 r2 r796 (k + 0) (j + 0) μ793 K18 Q)))
set_option maxHeartbeats 4000000 in
set_option maxRecDepth 100000 in
theorem tB_L_law_1553 {x : GX} {b L : Nat} {xs : Nat → Int32} (f : Fx x cL_law RL 4 room_1) {r1 : Option Nat} {r2 : Option Nat} {i3 : Int32} {s0 : Int32} {s1 : Option Nat} {k j : Nat} {μ : Me} {Q : Int32 → Me → Prop} (hx : Lx x b L xs) {K18 : Int32 → Nat → Nat → Me → Prop} (hK18 : ∀ (a3 : Int32) (k j : Nat) (ν : Me), K18 a3 k j ν → G x 4 18 [(0, .ref b), (1, vr (gB x) r1), (2, vr (gB x) r2), (3, .int a3)] [] ν k j) (h : B_L_law_1553 L xs r1 r2 i3 s0 s1 k j μ K18 Q) : G x 4 1553 [(0, .ref b), (1, vr (gB x) r1), (2, vr (gB x) r2), (3, .int i3)] [.int s0, vr (gB x) s1] μ k j := by
  unfold B_L_law_1553 at h
  obtain ⟨t789, e790, h791⟩ := h
  subst e790
  have h := h791
  obtain ⟨v792, h⟩ := h
  obtain ⟨⟨c795, c795b⟩, h⟩ := h
  refine g_callV f mk_L_195 v792 (c_X10_asleep h) dL_law_1553 rfl rfl (Nat.le_of_ble_eq_true rfl) (rm_okL (by decide) (by decide)) ⟨c795, c795b⟩ (kI fun r796 μ793 x794 h => ?_)
  refine g_aload_nQ f 2 dL_law_1556 rfl rfl ?_
  refine g_aload_n f 0 dL_law_1557 rfl rfl ?_
  refine g_iload_n f 3 dL_law_1558 rfl rfl ?_
  refine g_iconst f 1 dL_law_1559 kc_1 ?_
  refine g_iadd f dL_law_1560 ?_
  refine g_sld f hx dL_law_1561 h (fun h => ?_)
  refine g_if_eq f 1569 dL_law_1562 rfl h (fun h => ?_) (fun h => ?_)
  · refine g_iconst f 0 dL_law_1569 kc_0 ?_
    exact h_sub [0, 1, 2, 3] rfl (tB_L_law_1570 f hx hK18 h)
  · refine g_iconst f 1 dL_law_1565 kc_1 ?_
    refine g_goto f 1570 dL_law_1566 rfl ?_
    exact h_sub [0, 1, 2, 3] rfl (tB_L_law_1570 f hx hK18 h)
def B_L_law_1539 (L : Nat) (xs : Nat → Int32) (r1 : Option Nat) (r2 : Option Nat) (i3 : Int32) (k j : Nat) (μ : Me) (K18 : Int32 → Nat → Nat → Me → Prop) (Q : Int32 → Me → Prop) : Prop := vp_in (i3 + 1) L ∧ (((xs (i3 + 1).toNatClampNeg) = 0 → B_L_law_1553 L xs r1 r2 i3 0 r1 k j μ K18 Q) ∧ (¬ (xs (i3 + 1).toNatClampNeg) = 0 → B_L_law_1553 L xs r1 r2 i3 1 r1 k j μ K18 Q))
set_option maxHeartbeats 4000000 in
set_option maxRecDepth 100000 in
theorem tB_L_law_1539 {x : GX} {b L : Nat} {xs : Nat → Int32} (f : Fx x cL_law RL 4 room_1) {r1 : Option Nat} {r2 : Option Nat} {i3 : Int32} {k j : Nat} {μ : Me} {Q : Int32 → Me → Prop} (hx : Lx x b L xs) {K18 : Int32 → Nat → Nat → Me → Prop} (hK18 : ∀ (a3 : Int32) (k j : Nat) (ν : Me), K18 a3 k j ν → G x 4 18 [(0, .ref b), (1, vr (gB x) r1), (2, vr (gB x) r2), (3, .int a3)] [] ν k j) (h : B_L_law_1539 L xs r1 r2 i3 k j μ K18 Q) : G x 4 1539 [(0, .ref b), (1, vr (gB x) r1), (2, vr (gB x) r2), (3, .int i3)] [] μ k j := by
  unfold B_L_law_1539 at h
  refine g_aload_nQ f 1 dL_law_1539 rfl rfl ?_
  refine g_aload_n f 0 dL_law_1540 rfl rfl ?_
  refine g_iload_n f 3 dL_law_1541 rfl rfl ?_
  refine g_iconst f 1 dL_law_1542 kc_1 ?_
  refine g_iadd f dL_law_1543 ?_
  refine g_sld f hx dL_law_1544 h (fun h => ?_)
  refine g_if_eq f 1552 dL_law_1545 rfl h (fun h => ?_) (fun h => ?_)
  · refine g_iconst f 0 dL_law_1552 kc_0 ?_
    exact h_sub [0, 1, 2, 3] rfl (tB_L_law_1553 f hx hK18 h)
  · refine g_iconst f 1 dL_law_1548 kc_1 ?_
    refine g_goto f 1553 dL_law_1549 rfl ?_
    exact h_sub [0, 1, 2, 3] rfl (tB_L_law_1553 f hx hK18 h)
def B_L_law_1578 (L : Nat) (xs : Nat → Int32) (r1 : Option Nat) (r2 : Option Nat) (i3 : Int32) (k j : Nat) (μ : Me) (K18 : Int32 → Nat → Nat → Me → Prop) (Q : Int32 → Me → Prop) : Prop := vp_in (i3 + 1) L ∧ ∃ t807, r1 = some t807 ∧ mok μ t807 10 ∧ (k + 0 ≤ 600000 ∧ j + 0 ≤ 7302250) ∧ S_X10_slack t807 (xs (i3 + 1).toNatClampNeg) μ (fun r814 μ811 => vp_in (i3 + 1) L ∧ ∃ t815, r2 = some t815 ∧ mok μ811 t815 11 ∧ ((k + 0) + 0 ≤ 600000 ∧ (j + 0) + 0 ≤ 7302250) ∧ S_X11_slack t815 (xs (i3 + 1).toNatClampNeg) μ811 (fun r822 μ819 => ((r814 = r822 → B_L_law_1814 L xs (some t807) (some t815) i3 ((k + 0) + 0) ((j + 0) + 0) μ819 K18 Q) ∧ (¬ r814 = r822 → (((k + 0) + 0) ≤ 600000 ∧ ((j + 0) + 0) ≤ 7302250) ∧ (0 : Int32) = 1))))
set_option maxHeartbeats 4000000 in
set_option maxRecDepth 100000 in
theorem tB_L_law_1578 {x : GX} {b L : Nat} {xs : Nat → Int32} (f : Fx x cL_law RL 4 room_1) {r1 : Option Nat} {r2 : Option Nat} {i3 : Int32} {k j : Nat} {μ : Me} {Q : Int32 → Me → Prop} (hx : Lx x b L xs) {K18 : Int32 → Nat → Nat → Me → Prop} (hK18 : ∀ (a3 : Int32) (k j : Nat) (ν : Me), K18 a3 k j ν → G x 4 18 [(0, .ref b), (1, vr (gB x) r1), (2, vr (gB x) r2), (3, .int a3)] [] ν k j) (h : B_L_law_1578 L xs r1 r2 i3 k j μ K18 Q) : G x 4 1578 [(0, .ref b), (1, vr (gB x) r1), (2, vr (gB x) r2), (3, .int i3)] [] μ k j := by
  unfold B_L_law_1578 at h
  refine g_aload_nQ f 1 dL_law_1578 rfl rfl ?_
  refine g_aload_n f 0 dL_law_1579 rfl rfl ?_
  refine g_iload_n f 3 dL_law_1580 rfl rfl ?_
  refine g_iconst f 1 dL_law_1581 kc_1 ?_
  refine g_iadd f dL_law_1582 ?_
  refine g_sld f hx dL_law_1583 h (fun h => ?_)
  obtain ⟨t807, e808, h809⟩ := h
  subst e808
  have h := h809
  obtain ⟨v810, h⟩ := h
  obtain ⟨⟨c813, c813b⟩, h⟩ := h
  refine g_callV f mk_L_199 v810 (c_X10_slack h) dL_law_1584 rfl rfl (Nat.le_of_ble_eq_true rfl) (rm_okL (by decide) (by decide)) ⟨c813, c813b⟩ (kI fun r814 μ811 x812 h => ?_)
  refine g_aload_nQ f 2 dL_law_1587 rfl rfl ?_
  refine g_aload_n f 0 dL_law_1588 rfl rfl ?_
  refine g_iload_n f 3 dL_law_1589 rfl rfl ?_
  refine g_iconst f 1 dL_law_1590 kc_1 ?_
  refine g_iadd f dL_law_1591 ?_
  refine g_sld f hx dL_law_1592 h (fun h => ?_)
  obtain ⟨t815, e816, h817⟩ := h
  subst e816
  have h := h817
  obtain ⟨v818, h⟩ := h
  obtain ⟨⟨c821, c821b⟩, h⟩ := h
  refine g_callV f mk_L_202 v818 (c_X11_slack h) dL_law_1593 rfl rfl (Nat.le_of_ble_eq_true rfl) (rm_okL (by decide) (by decide)) ⟨c821, c821b⟩ (kI fun r822 μ819 x820 h => ?_)
  refine g_ic_eq f 1814 dL_law_1596 rfl h (fun h => ?_) (fun h => ?_)
  · exact h_sub [0, 1, 2, 3] rfl (tB_L_law_1814 f hx hK18 h)
  · refine g_iconst f 0 dL_law_1599 kc_0 ?_
    obtain ⟨⟨c823, c823b⟩, h⟩ := h
    exact g_lawret f hx c823 c823b rfl dL_law_1600 h
def B_L_law_1601 (L : Nat) (xs : Nat → Int32) (r1 : Option Nat) (r2 : Option Nat) (i3 : Int32) (k j : Nat) (μ : Me) (K18 : Int32 → Nat → Nat → Me → Prop) (Q : Int32 → Me → Prop) : Prop := vp_in (i3 + 1) L ∧ ∃ t825, r1 = some t825 ∧ mok μ t825 10 ∧ (k + 0 ≤ 600000 ∧ j + 0 ≤ 7302250) ∧ S_X10_least t825 (xs (i3 + 1).toNatClampNeg) μ (fun r832 μ829 => vp_in (i3 + 1) L ∧ ∃ t833, r2 = some t833 ∧ mok μ829 t833 11 ∧ ((k + 0) + 0 ≤ 600000 ∧ (j + 0) + 0 ≤ 7302250) ∧ S_X11_least t833 (xs (i3 + 1).toNatClampNeg) μ829 (fun r840 μ837 => ((r832 = r840 → B_L_law_1814 L xs (some t825) (some t833) i3 ((k + 0) + 0) ((j + 0) + 0) μ837 K18 Q) ∧ (¬ r832 = r840 → (((k + 0) + 0) ≤ 600000 ∧ ((j + 0) + 0) ≤ 7302250) ∧ (0 : Int32) = 1))))
set_option maxHeartbeats 4000000 in
set_option maxRecDepth 100000 in
theorem tB_L_law_1601 {x : GX} {b L : Nat} {xs : Nat → Int32} (f : Fx x cL_law RL 4 room_1) {r1 : Option Nat} {r2 : Option Nat} {i3 : Int32} {k j : Nat} {μ : Me} {Q : Int32 → Me → Prop} (hx : Lx x b L xs) {K18 : Int32 → Nat → Nat → Me → Prop} (hK18 : ∀ (a3 : Int32) (k j : Nat) (ν : Me), K18 a3 k j ν → G x 4 18 [(0, .ref b), (1, vr (gB x) r1), (2, vr (gB x) r2), (3, .int a3)] [] ν k j) (h : B_L_law_1601 L xs r1 r2 i3 k j μ K18 Q) : G x 4 1601 [(0, .ref b), (1, vr (gB x) r1), (2, vr (gB x) r2), (3, .int i3)] [] μ k j := by
  unfold B_L_law_1601 at h
  refine g_aload_nQ f 1 dL_law_1601 rfl rfl ?_
  refine g_aload_n f 0 dL_law_1602 rfl rfl ?_
  refine g_iload_n f 3 dL_law_1603 rfl rfl ?_
  refine g_iconst f 1 dL_law_1604 kc_1 ?_
  refine g_iadd f dL_law_1605 ?_
  refine g_sld f hx dL_law_1606 h (fun h => ?_)
  obtain ⟨t825, e826, h827⟩ := h
  subst e826
  have h := h827
  obtain ⟨v828, h⟩ := h
  obtain ⟨⟨c831, c831b⟩, h⟩ := h
  refine g_callV f mk_L_203 v828 (c_X10_least h) dL_law_1607 rfl rfl (Nat.le_of_ble_eq_true rfl) (rm_okL (by decide) (by decide)) ⟨c831, c831b⟩ (kI fun r832 μ829 x830 h => ?_)
  refine g_aload_nQ f 2 dL_law_1610 rfl rfl ?_
  refine g_aload_n f 0 dL_law_1611 rfl rfl ?_
  refine g_iload_n f 3 dL_law_1612 rfl rfl ?_
  refine g_iconst f 1 dL_law_1613 kc_1 ?_
  refine g_iadd f dL_law_1614 ?_
  refine g_sld f hx dL_law_1615 h (fun h => ?_)
  obtain ⟨t833, e834, h835⟩ := h
  subst e834
  have h := h835
  obtain ⟨v836, h⟩ := h
  obtain ⟨⟨c839, c839b⟩, h⟩ := h
  refine g_callV f mk_L_206 v836 (c_X11_least h) dL_law_1616 rfl rfl (Nat.le_of_ble_eq_true rfl) (rm_okL (by decide) (by decide)) ⟨c839, c839b⟩ (kI fun r840 μ837 x838 h => ?_)
  refine g_ic_eq f 1814 dL_law_1619 rfl h (fun h => ?_) (fun h => ?_)
  · exact h_sub [0, 1, 2, 3] rfl (tB_L_law_1814 f hx hK18 h)
  · refine g_iconst f 0 dL_law_1622 kc_0 ?_
    obtain ⟨⟨c841, c841b⟩, h⟩ := h
    exact g_lawret f hx c841 c841b rfl dL_law_1623 h
def B_L_law_1624 (L : Nat) (xs : Nat → Int32) (r1 : Option Nat) (r2 : Option Nat) (i3 : Int32) (k j : Nat) (μ : Me) (K18 : Int32 → Nat → Nat → Me → Prop) (Q : Int32 → Me → Prop) : Prop := vp_in (i3 + 1) L ∧ vp_in (i3 + 2) L ∧ ∃ t843, r1 = some t843 ∧ mok μ t843 10 ∧ (k + 0 ≤ 600000 ∧ j + 0 ≤ 7302250) ∧ S_X10_moves t843 (xs (i3 + 1).toNatClampNeg) (xs (i3 + 2).toNatClampNeg) μ (fun r850 μ847 => vp_in (i3 + 1) L ∧ vp_in (i3 + 2) L ∧ ∃ t851, r2 = some t851 ∧ mok μ847 t851 11 ∧ ((k + 0) + 0 ≤ 600000 ∧ (j + 0) + 0 ≤ 7302250) ∧ S_X11_moves t851 (xs (i3 + 1).toNatClampNeg) (xs (i3 + 2).toNatClampNeg) μ847 (fun r858 μ855 => ((r850 = r858 → B_L_law_1814 L xs (some t843) (some t851) i3 ((k + 0) + 0) ((j + 0) + 0) μ855 K18 Q) ∧ (¬ r850 = r858 → (((k + 0) + 0) ≤ 600000 ∧ ((j + 0) + 0) ≤ 7302250) ∧ (0 : Int32) = 1))))
set_option maxHeartbeats 4000000 in
set_option maxRecDepth 100000 in
theorem tB_L_law_1624 {x : GX} {b L : Nat} {xs : Nat → Int32} (f : Fx x cL_law RL 4 room_1) {r1 : Option Nat} {r2 : Option Nat} {i3 : Int32} {k j : Nat} {μ : Me} {Q : Int32 → Me → Prop} (hx : Lx x b L xs) {K18 : Int32 → Nat → Nat → Me → Prop} (hK18 : ∀ (a3 : Int32) (k j : Nat) (ν : Me), K18 a3 k j ν → G x 4 18 [(0, .ref b), (1, vr (gB x) r1), (2, vr (gB x) r2), (3, .int a3)] [] ν k j) (h : B_L_law_1624 L xs r1 r2 i3 k j μ K18 Q) : G x 4 1624 [(0, .ref b), (1, vr (gB x) r1), (2, vr (gB x) r2), (3, .int i3)] [] μ k j := by
  unfold B_L_law_1624 at h
  refine g_aload_nQ f 1 dL_law_1624 rfl rfl ?_
  refine g_aload_n f 0 dL_law_1625 rfl rfl ?_
  refine g_iload_n f 3 dL_law_1626 rfl rfl ?_
  refine g_iconst f 1 dL_law_1627 kc_1 ?_
  refine g_iadd f dL_law_1628 ?_
  refine g_sld f hx dL_law_1629 h (fun h => ?_)
  refine g_aload_n f 0 dL_law_1630 rfl rfl ?_
  refine g_iload_n f 3 dL_law_1631 rfl rfl ?_
  refine g_iconst f 2 dL_law_1632 kc_2 ?_
  refine g_iadd f dL_law_1633 ?_
  refine g_sld f hx dL_law_1634 h (fun h => ?_)
  obtain ⟨t843, e844, h845⟩ := h
  subst e844
  have h := h845
  obtain ⟨v846, h⟩ := h
  obtain ⟨⟨c849, c849b⟩, h⟩ := h
  refine g_callV f mk_L_207 v846 (c_X10_moves h) dL_law_1635 rfl rfl (Nat.le_of_ble_eq_true rfl) (rm_okL (by decide) (by decide)) ⟨c849, c849b⟩ (kI fun r850 μ847 x848 h => ?_)
  refine g_aload_nQ f 2 dL_law_1638 rfl rfl ?_
  refine g_aload_n f 0 dL_law_1639 rfl rfl ?_
  refine g_iload_n f 3 dL_law_1640 rfl rfl ?_
  refine g_iconst f 1 dL_law_1641 kc_1 ?_
  refine g_iadd f dL_law_1642 ?_
  refine g_sld f hx dL_law_1643 h (fun h => ?_)
  refine g_aload_n f 0 dL_law_1644 rfl rfl ?_
  refine g_iload_n f 3 dL_law_1645 rfl rfl ?_
  refine g_iconst f 2 dL_law_1646 kc_2 ?_
  refine g_iadd f dL_law_1647 ?_
  refine g_sld f hx dL_law_1648 h (fun h => ?_)
  obtain ⟨t851, e852, h853⟩ := h
  subst e852
  have h := h853
  obtain ⟨v854, h⟩ := h
  obtain ⟨⟨c857, c857b⟩, h⟩ := h
  refine g_callV f mk_L_210 v854 (c_X11_moves h) dL_law_1649 rfl rfl (Nat.le_of_ble_eq_true rfl) (rm_okL (by decide) (by decide)) ⟨c857, c857b⟩ (kI fun r858 μ855 x856 h => ?_)
  refine g_ic_eq f 1814 dL_law_1652 rfl h (fun h => ?_) (fun h => ?_)
  · exact h_sub [0, 1, 2, 3] rfl (tB_L_law_1814 f hx hK18 h)
  · refine g_iconst f 0 dL_law_1655 kc_0 ?_
    obtain ⟨⟨c859, c859b⟩, h⟩ := h
    exact g_lawret f hx c859 c859b rfl dL_law_1656 h
def B_L_law_1657 (L : Nat) (xs : Nat → Int32) (r1 : Option Nat) (r2 : Option Nat) (i3 : Int32) (k j : Nat) (μ : Me) (K18 : Int32 → Nat → Nat → Me → Prop) (Q : Int32 → Me → Prop) : Prop := vp_in (i3 + 1) L ∧ vp_in (i3 + 2) L ∧ ∃ t861, r1 = some t861 ∧ mok μ t861 10 ∧ (k + 0 ≤ 600000 ∧ j + 0 ≤ 7302250) ∧ S_X10_said t861 (xs (i3 + 1).toNatClampNeg) (xs (i3 + 2).toNatClampNeg) μ (fun r868 μ865 => vp_in (i3 + 1) L ∧ vp_in (i3 + 2) L ∧ ∃ t869, r2 = some t869 ∧ mok μ865 t869 11 ∧ ((k + 0) + 0 ≤ 600000 ∧ (j + 0) + 0 ≤ 7302250) ∧ S_X11_said t869 (xs (i3 + 1).toNatClampNeg) (xs (i3 + 2).toNatClampNeg) μ865 (fun r876 μ873 => ((r868 = r876 → B_L_law_1814 L xs (some t861) (some t869) i3 ((k + 0) + 0) ((j + 0) + 0) μ873 K18 Q) ∧ (¬ r868 = r876 → (((k + 0) + 0) ≤ 600000 ∧ ((j + 0) + 0) ≤ 7302250) ∧ (0 : Int32) = 1))))
set_option maxHeartbeats 4000000 in
set_option maxRecDepth 100000 in
theorem tB_L_law_1657 {x : GX} {b L : Nat} {xs : Nat → Int32} (f : Fx x cL_law RL 4 room_1) {r1 : Option Nat} {r2 : Option Nat} {i3 : Int32} {k j : Nat} {μ : Me} {Q : Int32 → Me → Prop} (hx : Lx x b L xs) {K18 : Int32 → Nat → Nat → Me → Prop} (hK18 : ∀ (a3 : Int32) (k j : Nat) (ν : Me), K18 a3 k j ν → G x 4 18 [(0, .ref b), (1, vr (gB x) r1), (2, vr (gB x) r2), (3, .int a3)] [] ν k j) (h : B_L_law_1657 L xs r1 r2 i3 k j μ K18 Q) : G x 4 1657 [(0, .ref b), (1, vr (gB x) r1), (2, vr (gB x) r2), (3, .int i3)] [] μ k j := by
  unfold B_L_law_1657 at h
  refine g_aload_nQ f 1 dL_law_1657 rfl rfl ?_
  refine g_aload_n f 0 dL_law_1658 rfl rfl ?_
  refine g_iload_n f 3 dL_law_1659 rfl rfl ?_
  refine g_iconst f 1 dL_law_1660 kc_1 ?_
  refine g_iadd f dL_law_1661 ?_
  refine g_sld f hx dL_law_1662 h (fun h => ?_)
  refine g_aload_n f 0 dL_law_1663 rfl rfl ?_
  refine g_iload_n f 3 dL_law_1664 rfl rfl ?_
  refine g_iconst f 2 dL_law_1665 kc_2 ?_
  refine g_iadd f dL_law_1666 ?_
  refine g_sld f hx dL_law_1667 h (fun h => ?_)
  obtain ⟨t861, e862, h863⟩ := h
  subst e862
  have h := h863
  obtain ⟨v864, h⟩ := h
  obtain ⟨⟨c867, c867b⟩, h⟩ := h
  refine g_callV f mk_L_211 v864 (c_X10_said h) dL_law_1668 rfl rfl (Nat.le_of_ble_eq_true rfl) (rm_okL (by decide) (by decide)) ⟨c867, c867b⟩ (kI fun r868 μ865 x866 h => ?_)
  refine g_aload_nQ f 2 dL_law_1671 rfl rfl ?_
  refine g_aload_n f 0 dL_law_1672 rfl rfl ?_
  refine g_iload_n f 3 dL_law_1673 rfl rfl ?_
  refine g_iconst f 1 dL_law_1674 kc_1 ?_
  refine g_iadd f dL_law_1675 ?_
  refine g_sld f hx dL_law_1676 h (fun h => ?_)
  refine g_aload_n f 0 dL_law_1677 rfl rfl ?_
  refine g_iload_n f 3 dL_law_1678 rfl rfl ?_
  refine g_iconst f 2 dL_law_1679 kc_2 ?_
  refine g_iadd f dL_law_1680 ?_
  refine g_sld f hx dL_law_1681 h (fun h => ?_)
  obtain ⟨t869, e870, h871⟩ := h
  subst e870
  have h := h871
  obtain ⟨v872, h⟩ := h
  obtain ⟨⟨c875, c875b⟩, h⟩ := h
  refine g_callV f mk_L_214 v872 (c_X11_said h) dL_law_1682 rfl rfl (Nat.le_of_ble_eq_true rfl) (rm_okL (by decide) (by decide)) ⟨c875, c875b⟩ (kI fun r876 μ873 x874 h => ?_)
  refine g_ic_eq f 1814 dL_law_1685 rfl h (fun h => ?_) (fun h => ?_)
  · exact h_sub [0, 1, 2, 3] rfl (tB_L_law_1814 f hx hK18 h)
  · refine g_iconst f 0 dL_law_1688 kc_0 ?_
    obtain ⟨⟨c877, c877b⟩, h⟩ := h
    exact g_lawret f hx c877 c877b rfl dL_law_1689 h
def B_L_law_1690 (L : Nat) (xs : Nat → Int32) (r1 : Option Nat) (r2 : Option Nat) (i3 : Int32) (k j : Nat) (μ : Me) (K18 : Int32 → Nat → Nat → Me → Prop) (Q : Int32 → Me → Prop) : Prop := ∃ t879, r1 = some t879 ∧ mok μ t879 10 ∧ (k + 0 ≤ 600000 ∧ j + 0 ≤ 7302250) ∧ S_X10_whose t879 μ (fun r886 μ883 => ∃ t887, r2 = some t887 ∧ mok μ883 t887 11 ∧ ((k + 0) + 0 ≤ 600000 ∧ (j + 0) + 0 ≤ 7302250) ∧ S_X11_whose t887 μ883 (fun r894 μ891 => ((r886 = r894 → B_L_law_1814 L xs (some t879) (some t887) i3 ((k + 0) + 0) ((j + 0) + 0) μ891 K18 Q) ∧ (¬ r886 = r894 → (((k + 0) + 0) ≤ 600000 ∧ ((j + 0) + 0) ≤ 7302250) ∧ (0 : Int32) = 1))))
set_option maxHeartbeats 4000000 in
set_option maxRecDepth 100000 in
theorem tB_L_law_1690 {x : GX} {b L : Nat} {xs : Nat → Int32} (f : Fx x cL_law RL 4 room_1) {r1 : Option Nat} {r2 : Option Nat} {i3 : Int32} {k j : Nat} {μ : Me} {Q : Int32 → Me → Prop} (hx : Lx x b L xs) {K18 : Int32 → Nat → Nat → Me → Prop} (hK18 : ∀ (a3 : Int32) (k j : Nat) (ν : Me), K18 a3 k j ν → G x 4 18 [(0, .ref b), (1, vr (gB x) r1), (2, vr (gB x) r2), (3, .int a3)] [] ν k j) (h : B_L_law_1690 L xs r1 r2 i3 k j μ K18 Q) : G x 4 1690 [(0, .ref b), (1, vr (gB x) r1), (2, vr (gB x) r2), (3, .int i3)] [] μ k j := by
  unfold B_L_law_1690 at h
  refine g_aload_nQ f 1 dL_law_1690 rfl rfl ?_
  obtain ⟨t879, e880, h881⟩ := h
  subst e880
  have h := h881
  obtain ⟨v882, h⟩ := h
  obtain ⟨⟨c885, c885b⟩, h⟩ := h
  refine g_callV f mk_L_215 v882 (c_X10_whose h) dL_law_1691 rfl rfl (Nat.le_of_ble_eq_true rfl) (rm_okL (by decide) (by decide)) ⟨c885, c885b⟩ (kI fun r886 μ883 x884 h => ?_)
  refine g_aload_nQ f 2 dL_law_1694 rfl rfl ?_
  obtain ⟨t887, e888, h889⟩ := h
  subst e888
  have h := h889
  obtain ⟨v890, h⟩ := h
  obtain ⟨⟨c893, c893b⟩, h⟩ := h
  refine g_callV f mk_L_218 v890 (c_X11_whose h) dL_law_1695 rfl rfl (Nat.le_of_ble_eq_true rfl) (rm_okL (by decide) (by decide)) ⟨c893, c893b⟩ (kI fun r894 μ891 x892 h => ?_)
  refine g_ic_eq f 1814 dL_law_1698 rfl h (fun h => ?_) (fun h => ?_)
  · exact h_sub [0, 1, 2, 3] rfl (tB_L_law_1814 f hx hK18 h)
  · refine g_iconst f 0 dL_law_1701 kc_0 ?_
    obtain ⟨⟨c895, c895b⟩, h⟩ := h
    exact g_lawret f hx c895 c895b rfl dL_law_1702 h
def B_L_law_1703 (L : Nat) (xs : Nat → Int32) (r1 : Option Nat) (r2 : Option Nat) (i3 : Int32) (k j : Nat) (μ : Me) (K18 : Int32 → Nat → Nat → Me → Prop) (Q : Int32 → Me → Prop) : Prop := ∃ t897, r1 = some t897 ∧ mok μ t897 10 ∧ (k + 0 ≤ 600000 ∧ j + 0 ≤ 7302250) ∧ S_X10_latest t897 μ (fun r904 μ901 => ∃ t905, r2 = some t905 ∧ mok μ901 t905 11 ∧ ((k + 0) + 0 ≤ 600000 ∧ (j + 0) + 0 ≤ 7302250) ∧ S_X11_latest t905 μ901 (fun r912 μ909 => ((r904 = r912 → B_L_law_1814 L xs (some t897) (some t905) i3 ((k + 0) + 0) ((j + 0) + 0) μ909 K18 Q) ∧ (¬ r904 = r912 → (((k + 0) + 0) ≤ 600000 ∧ ((j + 0) + 0) ≤ 7302250) ∧ (0 : Int32) = 1))))
set_option maxHeartbeats 4000000 in
set_option maxRecDepth 100000 in
theorem tB_L_law_1703 {x : GX} {b L : Nat} {xs : Nat → Int32} (f : Fx x cL_law RL 4 room_1) {r1 : Option Nat} {r2 : Option Nat} {i3 : Int32} {k j : Nat} {μ : Me} {Q : Int32 → Me → Prop} (hx : Lx x b L xs) {K18 : Int32 → Nat → Nat → Me → Prop} (hK18 : ∀ (a3 : Int32) (k j : Nat) (ν : Me), K18 a3 k j ν → G x 4 18 [(0, .ref b), (1, vr (gB x) r1), (2, vr (gB x) r2), (3, .int a3)] [] ν k j) (h : B_L_law_1703 L xs r1 r2 i3 k j μ K18 Q) : G x 4 1703 [(0, .ref b), (1, vr (gB x) r1), (2, vr (gB x) r2), (3, .int i3)] [] μ k j := by
  unfold B_L_law_1703 at h
  refine g_aload_nQ f 1 dL_law_1703 rfl rfl ?_
  obtain ⟨t897, e898, h899⟩ := h
  subst e898
  have h := h899
  obtain ⟨v900, h⟩ := h
  obtain ⟨⟨c903, c903b⟩, h⟩ := h
  refine g_callV f mk_L_219 v900 (c_X10_latest h) dL_law_1704 rfl rfl (Nat.le_of_ble_eq_true rfl) (rm_okL (by decide) (by decide)) ⟨c903, c903b⟩ (kI fun r904 μ901 x902 h => ?_)
  refine g_aload_nQ f 2 dL_law_1707 rfl rfl ?_
  obtain ⟨t905, e906, h907⟩ := h
  subst e906
  have h := h907
  obtain ⟨v908, h⟩ := h
  obtain ⟨⟨c911, c911b⟩, h⟩ := h
  refine g_callV f mk_L_222 v908 (c_X11_latest h) dL_law_1708 rfl rfl (Nat.le_of_ble_eq_true rfl) (rm_okL (by decide) (by decide)) ⟨c911, c911b⟩ (kI fun r912 μ909 x910 h => ?_)
  refine g_ic_eq f 1814 dL_law_1711 rfl h (fun h => ?_) (fun h => ?_)
  · exact h_sub [0, 1, 2, 3] rfl (tB_L_law_1814 f hx hK18 h)
  · refine g_iconst f 0 dL_law_1714 kc_0 ?_
    obtain ⟨⟨c913, c913b⟩, h⟩ := h
    exact g_lawret f hx c913 c913b rfl dL_law_1715 h
def B_L_law_1716 (L : Nat) (xs : Nat → Int32) (r1 : Option Nat) (r2 : Option Nat) (i3 : Int32) (k j : Nat) (μ : Me) (K18 : Int32 → Nat → Nat → Me → Prop) (Q : Int32 → Me → Prop) : Prop := ∃ t915, r1 = some t915 ∧ mok μ t915 10 ∧ (k + 0 ≤ 600000 ∧ j + 0 ≤ 7302250) ∧ S_X10_crowded t915 μ (fun r922 μ919 => ∃ t923, r2 = some t923 ∧ mok μ919 t923 11 ∧ ((k + 0) + 0 ≤ 600000 ∧ (j + 0) + 0 ≤ 7302250) ∧ S_X11_crowded t923 μ919 (fun r930 μ927 => ((r922 = r930 → B_L_law_1814 L xs (some t915) (some t923) i3 ((k + 0) + 0) ((j + 0) + 0) μ927 K18 Q) ∧ (¬ r922 = r930 → (((k + 0) + 0) ≤ 600000 ∧ ((j + 0) + 0) ≤ 7302250) ∧ (0 : Int32) = 1))))
set_option maxHeartbeats 4000000 in
set_option maxRecDepth 100000 in
theorem tB_L_law_1716 {x : GX} {b L : Nat} {xs : Nat → Int32} (f : Fx x cL_law RL 4 room_1) {r1 : Option Nat} {r2 : Option Nat} {i3 : Int32} {k j : Nat} {μ : Me} {Q : Int32 → Me → Prop} (hx : Lx x b L xs) {K18 : Int32 → Nat → Nat → Me → Prop} (hK18 : ∀ (a3 : Int32) (k j : Nat) (ν : Me), K18 a3 k j ν → G x 4 18 [(0, .ref b), (1, vr (gB x) r1), (2, vr (gB x) r2), (3, .int a3)] [] ν k j) (h : B_L_law_1716 L xs r1 r2 i3 k j μ K18 Q) : G x 4 1716 [(0, .ref b), (1, vr (gB x) r1), (2, vr (gB x) r2), (3, .int i3)] [] μ k j := by
  unfold B_L_law_1716 at h
  refine g_aload_nQ f 1 dL_law_1716 rfl rfl ?_
  obtain ⟨t915, e916, h917⟩ := h
  subst e916
  have h := h917
  obtain ⟨v918, h⟩ := h
  obtain ⟨⟨c921, c921b⟩, h⟩ := h
  refine g_callV f mk_L_223 v918 (c_X10_crowded h) dL_law_1717 rfl rfl (Nat.le_of_ble_eq_true rfl) (rm_okL (by decide) (by decide)) ⟨c921, c921b⟩ (kI fun r922 μ919 x920 h => ?_)
  refine g_aload_nQ f 2 dL_law_1720 rfl rfl ?_
  obtain ⟨t923, e924, h925⟩ := h
  subst e924
  have h := h925
  obtain ⟨v926, h⟩ := h
  obtain ⟨⟨c929, c929b⟩, h⟩ := h
  refine g_callV f mk_L_226 v926 (c_X11_crowded h) dL_law_1721 rfl rfl (Nat.le_of_ble_eq_true rfl) (rm_okL (by decide) (by decide)) ⟨c929, c929b⟩ (kI fun r930 μ927 x928 h => ?_)
  refine g_ic_eq f 1814 dL_law_1724 rfl h (fun h => ?_) (fun h => ?_)
  · exact h_sub [0, 1, 2, 3] rfl (tB_L_law_1814 f hx hK18 h)
  · refine g_iconst f 0 dL_law_1727 kc_0 ?_
    obtain ⟨⟨c931, c931b⟩, h⟩ := h
    exact g_lawret f hx c931 c931b rfl dL_law_1728 h
def B_L_law_1729 (L : Nat) (xs : Nat → Int32) (r1 : Option Nat) (r2 : Option Nat) (i3 : Int32) (k j : Nat) (μ : Me) (K18 : Int32 → Nat → Nat → Me → Prop) (Q : Int32 → Me → Prop) : Prop := ∃ t933, r1 = some t933 ∧ mok μ t933 10 ∧ (k + 0 ≤ 600000 ∧ j + 0 ≤ 7302250) ∧ S_X10_deaf t933 μ (fun r940 μ937 => ∃ t941, r2 = some t941 ∧ mok μ937 t941 11 ∧ ((k + 0) + 0 ≤ 600000 ∧ (j + 0) + 0 ≤ 7302250) ∧ S_X11_deaf t941 μ937 (fun r948 μ945 => ((r940 = r948 → B_L_law_1814 L xs (some t933) (some t941) i3 ((k + 0) + 0) ((j + 0) + 0) μ945 K18 Q) ∧ (¬ r940 = r948 → (((k + 0) + 0) ≤ 600000 ∧ ((j + 0) + 0) ≤ 7302250) ∧ (0 : Int32) = 1))))
set_option maxHeartbeats 4000000 in
set_option maxRecDepth 100000 in
theorem tB_L_law_1729 {x : GX} {b L : Nat} {xs : Nat → Int32} (f : Fx x cL_law RL 4 room_1) {r1 : Option Nat} {r2 : Option Nat} {i3 : Int32} {k j : Nat} {μ : Me} {Q : Int32 → Me → Prop} (hx : Lx x b L xs) {K18 : Int32 → Nat → Nat → Me → Prop} (hK18 : ∀ (a3 : Int32) (k j : Nat) (ν : Me), K18 a3 k j ν → G x 4 18 [(0, .ref b), (1, vr (gB x) r1), (2, vr (gB x) r2), (3, .int a3)] [] ν k j) (h : B_L_law_1729 L xs r1 r2 i3 k j μ K18 Q) : G x 4 1729 [(0, .ref b), (1, vr (gB x) r1), (2, vr (gB x) r2), (3, .int i3)] [] μ k j := by
  unfold B_L_law_1729 at h
  refine g_aload_nQ f 1 dL_law_1729 rfl rfl ?_
  obtain ⟨t933, e934, h935⟩ := h
  subst e934
  have h := h935
  obtain ⟨v936, h⟩ := h
  obtain ⟨⟨c939, c939b⟩, h⟩ := h
  refine g_callV f mk_L_227 v936 (c_X10_deaf h) dL_law_1730 rfl rfl (Nat.le_of_ble_eq_true rfl) (rm_okL (by decide) (by decide)) ⟨c939, c939b⟩ (kI fun r940 μ937 x938 h => ?_)
  refine g_aload_nQ f 2 dL_law_1733 rfl rfl ?_
  obtain ⟨t941, e942, h943⟩ := h
  subst e942
  have h := h943
  obtain ⟨v944, h⟩ := h
  obtain ⟨⟨c947, c947b⟩, h⟩ := h
  refine g_callV f mk_L_230 v944 (c_X11_deaf h) dL_law_1734 rfl rfl (Nat.le_of_ble_eq_true rfl) (rm_okL (by decide) (by decide)) ⟨c947, c947b⟩ (kI fun r948 μ945 x946 h => ?_)
  refine g_ic_eq f 1814 dL_law_1737 rfl h (fun h => ?_) (fun h => ?_)
  · exact h_sub [0, 1, 2, 3] rfl (tB_L_law_1814 f hx hK18 h)
  · refine g_iconst f 0 dL_law_1740 kc_0 ?_
    obtain ⟨⟨c949, c949b⟩, h⟩ := h
    exact g_lawret f hx c949 c949b rfl dL_law_1741 h
def B_L_law_1742 (L : Nat) (xs : Nat → Int32) (r1 : Option Nat) (r2 : Option Nat) (i3 : Int32) (k j : Nat) (μ : Me) (K18 : Int32 → Nat → Nat → Me → Prop) (Q : Int32 → Me → Prop) : Prop := vp_in (i3 + 1) L ∧ ∃ t951, r1 = some t951 ∧ mok μ t951 10 ∧ (k + 0 ≤ 600000 ∧ j + 0 ≤ 7302250) ∧ S_X10_ledger t951 (xs (i3 + 1).toNatClampNeg) μ (fun r958 μ955 => vp_in (i3 + 1) L ∧ ∃ t959, r2 = some t959 ∧ mok μ955 t959 11 ∧ ((k + 0) + 0 ≤ 600000 ∧ (j + 0) + 0 ≤ 7302250) ∧ S_X11_ledger t959 (xs (i3 + 1).toNatClampNeg) μ955 (fun r966 μ963 => ((r958 = r966 → B_L_law_1814 L xs (some t951) (some t959) i3 ((k + 0) + 0) ((j + 0) + 0) μ963 K18 Q) ∧ (¬ r958 = r966 → (((k + 0) + 0) ≤ 600000 ∧ ((j + 0) + 0) ≤ 7302250) ∧ (0 : Int32) = 1))))
set_option maxHeartbeats 4000000 in
set_option maxRecDepth 100000 in
theorem tB_L_law_1742 {x : GX} {b L : Nat} {xs : Nat → Int32} (f : Fx x cL_law RL 4 room_1) {r1 : Option Nat} {r2 : Option Nat} {i3 : Int32} {k j : Nat} {μ : Me} {Q : Int32 → Me → Prop} (hx : Lx x b L xs) {K18 : Int32 → Nat → Nat → Me → Prop} (hK18 : ∀ (a3 : Int32) (k j : Nat) (ν : Me), K18 a3 k j ν → G x 4 18 [(0, .ref b), (1, vr (gB x) r1), (2, vr (gB x) r2), (3, .int a3)] [] ν k j) (h : B_L_law_1742 L xs r1 r2 i3 k j μ K18 Q) : G x 4 1742 [(0, .ref b), (1, vr (gB x) r1), (2, vr (gB x) r2), (3, .int i3)] [] μ k j := by
  unfold B_L_law_1742 at h
  refine g_aload_nQ f 1 dL_law_1742 rfl rfl ?_
  refine g_aload_n f 0 dL_law_1743 rfl rfl ?_
  refine g_iload_n f 3 dL_law_1744 rfl rfl ?_
  refine g_iconst f 1 dL_law_1745 kc_1 ?_
  refine g_iadd f dL_law_1746 ?_
  refine g_sld f hx dL_law_1747 h (fun h => ?_)
  obtain ⟨t951, e952, h953⟩ := h
  subst e952
  have h := h953
  obtain ⟨v954, h⟩ := h
  obtain ⟨⟨c957, c957b⟩, h⟩ := h
  refine g_callV f mk_L_231 v954 (c_X10_ledger h) dL_law_1748 rfl rfl (Nat.le_of_ble_eq_true rfl) (rm_okL (by decide) (by decide)) ⟨c957, c957b⟩ (kI fun r958 μ955 x956 h => ?_)
  refine g_aload_nQ f 2 dL_law_1751 rfl rfl ?_
  refine g_aload_n f 0 dL_law_1752 rfl rfl ?_
  refine g_iload_n f 3 dL_law_1753 rfl rfl ?_
  refine g_iconst f 1 dL_law_1754 kc_1 ?_
  refine g_iadd f dL_law_1755 ?_
  refine g_sld f hx dL_law_1756 h (fun h => ?_)
  obtain ⟨t959, e960, h961⟩ := h
  subst e960
  have h := h961
  obtain ⟨v962, h⟩ := h
  obtain ⟨⟨c965, c965b⟩, h⟩ := h
  refine g_callV f mk_L_234 v962 (c_X11_ledger h) dL_law_1757 rfl rfl (Nat.le_of_ble_eq_true rfl) (rm_okL (by decide) (by decide)) ⟨c965, c965b⟩ (kI fun r966 μ963 x964 h => ?_)
  refine g_ic_eq f 1814 dL_law_1760 rfl h (fun h => ?_) (fun h => ?_)
  · exact h_sub [0, 1, 2, 3] rfl (tB_L_law_1814 f hx hK18 h)
  · refine g_iconst f 0 dL_law_1763 kc_0 ?_
    obtain ⟨⟨c967, c967b⟩, h⟩ := h
    exact g_lawret f hx c967 c967b rfl dL_law_1764 h
def B_L_law_1765 (L : Nat) (xs : Nat → Int32) (r1 : Option Nat) (r2 : Option Nat) (i3 : Int32) (k j : Nat) (μ : Me) (K18 : Int32 → Nat → Nat → Me → Prop) (Q : Int32 → Me → Prop) : Prop := ∃ t969, r1 = some t969 ∧ mok μ t969 10 ∧ (k + 0 ≤ 600000 ∧ j + 0 ≤ 7302250) ∧ S_X10_image t969 μ (fun r976 μ973 => ∃ t977, r2 = some t977 ∧ mok μ973 t977 11 ∧ ((k + 0) + 0 ≤ 600000 ∧ (j + 0) + 0 ≤ 7302250) ∧ S_X11_image t977 μ973 (fun r984 μ981 => ((r976 = r984 → B_L_law_1814 L xs (some t969) (some t977) i3 ((k + 0) + 0) ((j + 0) + 0) μ981 K18 Q) ∧ (¬ r976 = r984 → (((k + 0) + 0) ≤ 600000 ∧ ((j + 0) + 0) ≤ 7302250) ∧ (0 : Int32) = 1))))
set_option maxHeartbeats 4000000 in
set_option maxRecDepth 100000 in
theorem tB_L_law_1765 {x : GX} {b L : Nat} {xs : Nat → Int32} (f : Fx x cL_law RL 4 room_1) {r1 : Option Nat} {r2 : Option Nat} {i3 : Int32} {k j : Nat} {μ : Me} {Q : Int32 → Me → Prop} (hx : Lx x b L xs) {K18 : Int32 → Nat → Nat → Me → Prop} (hK18 : ∀ (a3 : Int32) (k j : Nat) (ν : Me), K18 a3 k j ν → G x 4 18 [(0, .ref b), (1, vr (gB x) r1), (2, vr (gB x) r2), (3, .int a3)] [] ν k j) (h : B_L_law_1765 L xs r1 r2 i3 k j μ K18 Q) : G x 4 1765 [(0, .ref b), (1, vr (gB x) r1), (2, vr (gB x) r2), (3, .int i3)] [] μ k j := by
  unfold B_L_law_1765 at h
  refine g_aload_nQ f 1 dL_law_1765 rfl rfl ?_
  obtain ⟨t969, e970, h971⟩ := h
  subst e970
  have h := h971
  obtain ⟨v972, h⟩ := h
  obtain ⟨⟨c975, c975b⟩, h⟩ := h
  refine g_callV f mk_L_235 v972 (c_X10_image h) dL_law_1766 rfl rfl (Nat.le_of_ble_eq_true rfl) (rm_okL (by decide) (by decide)) ⟨c975, c975b⟩ (kI fun r976 μ973 x974 h => ?_)
  refine g_aload_nQ f 2 dL_law_1769 rfl rfl ?_
  obtain ⟨t977, e978, h979⟩ := h
  subst e978
  have h := h979
  obtain ⟨v980, h⟩ := h
  obtain ⟨⟨c983, c983b⟩, h⟩ := h
  refine g_callV f mk_L_238 v980 (c_X11_image h) dL_law_1770 rfl rfl (Nat.le_of_ble_eq_true rfl) (rm_okL (by decide) (by decide)) ⟨c983, c983b⟩ (kI fun r984 μ981 x982 h => ?_)
  refine g_ic_eq f 1814 dL_law_1773 rfl h (fun h => ?_) (fun h => ?_)
  · exact h_sub [0, 1, 2, 3] rfl (tB_L_law_1814 f hx hK18 h)
  · refine g_iconst f 0 dL_law_1776 kc_0 ?_
    obtain ⟨⟨c985, c985b⟩, h⟩ := h
    exact g_lawret f hx c985 c985b rfl dL_law_1777 h
def B_L_law_1778 (L : Nat) (xs : Nat → Int32) (r1 : Option Nat) (r2 : Option Nat) (i3 : Int32) (k j : Nat) (μ : Me) (K18 : Int32 → Nat → Nat → Me → Prop) (Q : Int32 → Me → Prop) : Prop := ∃ t987, r1 = some t987 ∧ mok μ t987 10 ∧ (k + 0 ≤ 600000 ∧ j + 0 ≤ 7302250) ∧ S_X10_back t987 μ (fun r994 μ991 => ∃ t995, r2 = some t995 ∧ mok μ991 t995 11 ∧ ((k + 0) + 0 ≤ 600000 ∧ (j + 0) + 0 ≤ 7302250) ∧ S_X11_back t995 μ991 (fun r1002 μ999 => ((r994 = r1002 → B_L_law_1814 L xs (some t987) (some t995) i3 ((k + 0) + 0) ((j + 0) + 0) μ999 K18 Q) ∧ (¬ r994 = r1002 → (((k + 0) + 0) ≤ 600000 ∧ ((j + 0) + 0) ≤ 7302250) ∧ (0 : Int32) = 1))))
set_option maxHeartbeats 4000000 in
set_option maxRecDepth 100000 in
theorem tB_L_law_1778 {x : GX} {b L : Nat} {xs : Nat → Int32} (f : Fx x cL_law RL 4 room_1) {r1 : Option Nat} {r2 : Option Nat} {i3 : Int32} {k j : Nat} {μ : Me} {Q : Int32 → Me → Prop} (hx : Lx x b L xs) {K18 : Int32 → Nat → Nat → Me → Prop} (hK18 : ∀ (a3 : Int32) (k j : Nat) (ν : Me), K18 a3 k j ν → G x 4 18 [(0, .ref b), (1, vr (gB x) r1), (2, vr (gB x) r2), (3, .int a3)] [] ν k j) (h : B_L_law_1778 L xs r1 r2 i3 k j μ K18 Q) : G x 4 1778 [(0, .ref b), (1, vr (gB x) r1), (2, vr (gB x) r2), (3, .int i3)] [] μ k j := by
  unfold B_L_law_1778 at h
  refine g_aload_nQ f 1 dL_law_1778 rfl rfl ?_
  obtain ⟨t987, e988, h989⟩ := h
  subst e988
  have h := h989
  obtain ⟨v990, h⟩ := h
  obtain ⟨⟨c993, c993b⟩, h⟩ := h
  refine g_callV f mk_L_239 v990 (c_X10_back h) dL_law_1779 rfl rfl (Nat.le_of_ble_eq_true rfl) (rm_okL (by decide) (by decide)) ⟨c993, c993b⟩ (kI fun r994 μ991 x992 h => ?_)
  refine g_aload_nQ f 2 dL_law_1782 rfl rfl ?_
  obtain ⟨t995, e996, h997⟩ := h
  subst e996
  have h := h997
  obtain ⟨v998, h⟩ := h
  obtain ⟨⟨c1001, c1001b⟩, h⟩ := h
  refine g_callV f mk_L_242 v998 (c_X11_back h) dL_law_1783 rfl rfl (Nat.le_of_ble_eq_true rfl) (rm_okL (by decide) (by decide)) ⟨c1001, c1001b⟩ (kI fun r1002 μ999 x1000 h => ?_)
  refine g_ic_eq f 1814 dL_law_1786 rfl h (fun h => ?_) (fun h => ?_)
  · exact h_sub [0, 1, 2, 3] rfl (tB_L_law_1814 f hx hK18 h)
  · refine g_iconst f 0 dL_law_1789 kc_0 ?_
    obtain ⟨⟨c1003, c1003b⟩, h⟩ := h
    exact g_lawret f hx c1003 c1003b rfl dL_law_1790 h
def B_L_law_1791 (L : Nat) (xs : Nat → Int32) (r1 : Option Nat) (r2 : Option Nat) (i3 : Int32) (k j : Nat) (μ : Me) (K18 : Int32 → Nat → Nat → Me → Prop) (Q : Int32 → Me → Prop) : Prop := vp_in (i3 + 1) L ∧ ∃ t1005, r1 = some t1005 ∧ mok μ t1005 10 ∧ (k + 0 ≤ 600000 ∧ j + 0 ≤ 7302250) ∧ S_X10_about t1005 (xs (i3 + 1).toNatClampNeg) μ (fun r1012 μ1009 => vp_in (i3 + 1) L ∧ ∃ t1013, r2 = some t1013 ∧ mok μ1009 t1013 11 ∧ ((k + 0) + 0 ≤ 600000 ∧ (j + 0) + 0 ≤ 7302250) ∧ S_X11_about t1013 (xs (i3 + 1).toNatClampNeg) μ1009 (fun r1020 μ1017 => ((r1012 = r1020 → B_L_law_1814 L xs (some t1005) (some t1013) i3 ((k + 0) + 0) ((j + 0) + 0) μ1017 K18 Q) ∧ (¬ r1012 = r1020 → (((k + 0) + 0) ≤ 600000 ∧ ((j + 0) + 0) ≤ 7302250) ∧ (0 : Int32) = 1))))
set_option maxHeartbeats 4000000 in
set_option maxRecDepth 100000 in
theorem tB_L_law_1791 {x : GX} {b L : Nat} {xs : Nat → Int32} (f : Fx x cL_law RL 4 room_1) {r1 : Option Nat} {r2 : Option Nat} {i3 : Int32} {k j : Nat} {μ : Me} {Q : Int32 → Me → Prop} (hx : Lx x b L xs) {K18 : Int32 → Nat → Nat → Me → Prop} (hK18 : ∀ (a3 : Int32) (k j : Nat) (ν : Me), K18 a3 k j ν → G x 4 18 [(0, .ref b), (1, vr (gB x) r1), (2, vr (gB x) r2), (3, .int a3)] [] ν k j) (h : B_L_law_1791 L xs r1 r2 i3 k j μ K18 Q) : G x 4 1791 [(0, .ref b), (1, vr (gB x) r1), (2, vr (gB x) r2), (3, .int i3)] [] μ k j := by
  unfold B_L_law_1791 at h
  refine g_aload_nQ f 1 dL_law_1791 rfl rfl ?_
  refine g_aload_n f 0 dL_law_1792 rfl rfl ?_
  refine g_iload_n f 3 dL_law_1793 rfl rfl ?_
  refine g_iconst f 1 dL_law_1794 kc_1 ?_
  refine g_iadd f dL_law_1795 ?_
  refine g_sld f hx dL_law_1796 h (fun h => ?_)
  obtain ⟨t1005, e1006, h1007⟩ := h
  subst e1006
  have h := h1007
  obtain ⟨v1008, h⟩ := h
  obtain ⟨⟨c1011, c1011b⟩, h⟩ := h
  refine g_callV f mk_L_243 v1008 (c_X10_about h) dL_law_1797 rfl rfl (Nat.le_of_ble_eq_true rfl) (rm_okL (by decide) (by decide)) ⟨c1011, c1011b⟩ (kI fun r1012 μ1009 x1010 h => ?_)
  refine g_aload_nQ f 2 dL_law_1800 rfl rfl ?_
  refine g_aload_n f 0 dL_law_1801 rfl rfl ?_
  refine g_iload_n f 3 dL_law_1802 rfl rfl ?_
  refine g_iconst f 1 dL_law_1803 kc_1 ?_
  refine g_iadd f dL_law_1804 ?_
  refine g_sld f hx dL_law_1805 h (fun h => ?_)
  obtain ⟨t1013, e1014, h1015⟩ := h
  subst e1014
  have h := h1015
  obtain ⟨v1016, h⟩ := h
  obtain ⟨⟨c1019, c1019b⟩, h⟩ := h
  refine g_callV f mk_L_246 v1016 (c_X11_about h) dL_law_1806 rfl rfl (Nat.le_of_ble_eq_true rfl) (rm_okL (by decide) (by decide)) ⟨c1019, c1019b⟩ (kI fun r1020 μ1017 x1018 h => ?_)
  refine g_ic_eq f 1814 dL_law_1809 rfl h (fun h => ?_) (fun h => ?_)
  · exact h_sub [0, 1, 2, 3] rfl (tB_L_law_1814 f hx hK18 h)
  · refine g_iconst f 0 dL_law_1812 kc_0 ?_
    obtain ⟨⟨c1021, c1021b⟩, h⟩ := h
    exact g_lawret f hx c1021 c1021b rfl dL_law_1813 h
def B_L_law_18 (L : Nat) (xs : Nat → Int32) (r1 : Option Nat) (r2 : Option Nat) (i3 : Int32) (k j : Nat) (μ : Me) (K18 : Int32 → Nat → Nat → Me → Prop) (Q : Int32 → Me → Prop) : Prop := ((((nI L) - 6) < i3 → (k ≤ 600000 ∧ j ≤ 7302250) ∧ (1 : Int32) = 1) ∧ (¬ ((nI L) - 6) < i3 → vp_in i3 L ∧ ((((xs i3.toNatClampNeg) &&& 63) = 0 → B_L_law_272 L xs r1 r2 i3 k j μ K18 Q) ∧ (¬ ((xs i3.toNatClampNeg) &&& 63) = 0 → (((xs i3.toNatClampNeg) &&& 63) = 1 → B_L_law_325 L xs r1 r2 i3 k j μ K18 Q) ∧ (¬ ((xs i3.toNatClampNeg) &&& 63) = 1 → (((xs i3.toNatClampNeg) &&& 63) = 2 → B_L_law_384 L xs r1 r2 i3 k j μ K18 Q) ∧ (¬ ((xs i3.toNatClampNeg) &&& 63) = 2 → (((xs i3.toNatClampNeg) &&& 63) = 3 → B_L_law_447 L xs r1 r2 i3 k j μ K18 Q) ∧ (¬ ((xs i3.toNatClampNeg) &&& 63) = 3 → (((xs i3.toNatClampNeg) &&& 63) = 4 → B_L_law_470 L xs r1 r2 i3 k j μ K18 Q) ∧ (¬ ((xs i3.toNatClampNeg) &&& 63) = 4 → (((xs i3.toNatClampNeg) &&& 63) = 5 → B_L_law_483 L xs r1 r2 i3 k j μ K18 Q) ∧ (¬ ((xs i3.toNatClampNeg) &&& 63) = 5 → (((xs i3.toNatClampNeg) &&& 63) = 6 → B_L_law_506 L xs r1 r2 i3 k j μ K18 Q) ∧ (¬ ((xs i3.toNatClampNeg) &&& 63) = 6 → (((xs i3.toNatClampNeg) &&& 63) = 7 → B_L_law_529 L xs r1 r2 i3 k j μ K18 Q) ∧ (¬ ((xs i3.toNatClampNeg) &&& 63) = 7 → (((xs i3.toNatClampNeg) &&& 63) = 8 → B_L_law_552 L xs r1 r2 i3 k j μ K18 Q) ∧ (¬ ((xs i3.toNatClampNeg) &&& 63) = 8 → (((xs i3.toNatClampNeg) &&& 63) = 9 → B_L_law_585 L xs r1 r2 i3 k j μ K18 Q) ∧ (¬ ((xs i3.toNatClampNeg) &&& 63) = 9 → (((xs i3.toNatClampNeg) &&& 63) = 10 → B_L_law_608 L xs r1 r2 i3 k j μ K18 Q) ∧ (¬ ((xs i3.toNatClampNeg) &&& 63) = 10 → (((xs i3.toNatClampNeg) &&& 63) = 11 → B_L_law_631 L xs r1 r2 i3 k j μ K18 Q) ∧ (¬ ((xs i3.toNatClampNeg) &&& 63) = 11 → (((xs i3.toNatClampNeg) &&& 63) = 12 → B_L_law_654 L xs r1 r2 i3 k j μ K18 Q) ∧ (¬ ((xs i3.toNatClampNeg) &&& 63) = 12 → (((xs i3.toNatClampNeg) &&& 63) = 13 → B_L_law_677 L xs r1 r2 i3 k j μ K18 Q) ∧ (¬ ((xs i3.toNatClampNeg) &&& 63) = 13 → (((xs i3.toNatClampNeg) &&& 63) = 14 → B_L_law_710 L xs r1 r2 i3 k j μ K18 Q) ∧ (¬ ((xs i3.toNatClampNeg) &&& 63) = 14 → (((xs i3.toNatClampNeg) &&& 63) = 15 → B_L_law_723 L xs r1 r2 i3 k j μ K18 Q) ∧ (¬ ((xs i3.toNatClampNeg) &&& 63) = 15 → (((xs i3.toNatClampNeg) &&& 63) = 16 → B_L_law_756 L xs r1 r2 i3 k j μ K18 Q) ∧ (¬ ((xs i3.toNatClampNeg) &&& 63) = 16 → (((xs i3.toNatClampNeg) &&& 63) = 17 → B_L_law_779 L xs r1 r2 i3 k j μ K18 Q) ∧ (¬ ((xs i3.toNatClampNeg) &&& 63) = 17 → (((xs i3.toNatClampNeg) &&& 63) = 18 → B_L_law_812 L xs r1 r2 i3 k j μ K18 Q) ∧ (¬ ((xs i3.toNatClampNeg) &&& 63) = 18 → (((xs i3.toNatClampNeg) &&& 63) = 19 → B_L_law_845 L xs r1 r2 i3 k j μ K18 Q) ∧ (¬ ((xs i3.toNatClampNeg) &&& 63) = 19 → (((xs i3.toNatClampNeg) &&& 63) = 20 → B_L_law_868 L xs r1 r2 i3 k j μ K18 Q) ∧ (¬ ((xs i3.toNatClampNeg) &&& 63) = 20 → (((xs i3.toNatClampNeg) &&& 63) = 21 → B_L_law_891 L xs r1 r2 i3 k j μ K18 Q) ∧ (¬ ((xs i3.toNatClampNeg) &&& 63) = 21 → (((xs i3.toNatClampNeg) &&& 63) = 22 → B_L_law_914 L xs r1 r2 i3 k j μ K18 Q) ∧ (¬ ((xs i3.toNatClampNeg) &&& 63) = 22 → (((xs i3.toNatClampNeg) &&& 63) = 23 → B_L_law_953 L xs r1 r2 i3 k j μ K18 Q) ∧ (¬ ((xs i3.toNatClampNeg) &&& 63) = 23 → (((xs i3.toNatClampNeg) &&& 63) = 24 → B_L_law_976 L xs r1 r2 i3 k j μ K18 Q) ∧ (¬ ((xs i3.toNatClampNeg) &&& 63) = 24 → (((xs i3.toNatClampNeg) &&& 63) = 25 → B_L_law_999 L xs r1 r2 i3 k j μ K18 Q) ∧ (¬ ((xs i3.toNatClampNeg) &&& 63) = 25 → (((xs i3.toNatClampNeg) &&& 63) = 26 → B_L_law_1012 L xs r1 r2 i3 k j μ K18 Q) ∧ (¬ ((xs i3.toNatClampNeg) &&& 63) = 26 → (((xs i3.toNatClampNeg) &&& 63) = 27 → B_L_law_1035 L xs r1 r2 i3 k j μ K18 Q) ∧ (¬ ((xs i3.toNatClampNeg) &&& 63) = 27 → (((xs i3.toNatClampNeg) &&& 63) = 28 → B_L_law_1048 L xs r1 r2 i3 k j μ K18 Q) ∧ (¬ ((xs i3.toNatClampNeg) &&& 63) = 28 → (((xs i3.toNatClampNeg) &&& 63) = 29 → B_L_law_1081 L xs r1 r2 i3 k j μ K18 Q) ∧ (¬ ((xs i3.toNatClampNeg) &&& 63) = 29 → (((xs i3.toNatClampNeg) &&& 63) = 30 → B_L_law_1114 L xs r1 r2 i3 k j μ K18 Q) ∧ (¬ ((xs i3.toNatClampNeg) &&& 63) = 30 → (((xs i3.toNatClampNeg) &&& 63) = 31 → B_L_law_1147 L xs r1 r2 i3 k j μ K18 Q) ∧ (¬ ((xs i3.toNatClampNeg) &&& 63) = 31 → (((xs i3.toNatClampNeg) &&& 63) = 32 → B_L_law_1160 L xs r1 r2 i3 k j μ K18 Q) ∧ (¬ ((xs i3.toNatClampNeg) &&& 63) = 32 → (((xs i3.toNatClampNeg) &&& 63) = 33 → B_L_law_1199 L xs r1 r2 i3 k j μ K18 Q) ∧ (¬ ((xs i3.toNatClampNeg) &&& 63) = 33 → (((xs i3.toNatClampNeg) &&& 63) = 34 → B_L_law_1248 L xs r1 r2 i3 k j μ K18 Q) ∧ (¬ ((xs i3.toNatClampNeg) &&& 63) = 34 → (((xs i3.toNatClampNeg) &&& 63) = 35 → B_L_law_1271 L xs r1 r2 i3 k j μ K18 Q) ∧ (¬ ((xs i3.toNatClampNeg) &&& 63) = 35 → (((xs i3.toNatClampNeg) &&& 63) = 36 → B_L_law_1294 L xs r1 r2 i3 k j μ K18 Q) ∧ (¬ ((xs i3.toNatClampNeg) &&& 63) = 36 → (((xs i3.toNatClampNeg) &&& 63) = 37 → B_L_law_1307 L xs r1 r2 i3 k j μ K18 Q) ∧ (¬ ((xs i3.toNatClampNeg) &&& 63) = 37 → (((xs i3.toNatClampNeg) &&& 63) = 38 → B_L_law_1330 L xs r1 r2 i3 k j μ K18 Q) ∧ (¬ ((xs i3.toNatClampNeg) &&& 63) = 38 → (((xs i3.toNatClampNeg) &&& 63) = 39 → B_L_law_1379 L xs r1 r2 i3 k j μ K18 Q) ∧ (¬ ((xs i3.toNatClampNeg) &&& 63) = 39 → (((xs i3.toNatClampNeg) &&& 63) = 40 → B_L_law_1428 L xs r1 r2 i3 k j μ K18 Q) ∧ (¬ ((xs i3.toNatClampNeg) &&& 63) = 40 → (((xs i3.toNatClampNeg) &&& 63) = 41 → B_L_law_1477 L xs r1 r2 i3 k j μ K18 Q) ∧ (¬ ((xs i3.toNatClampNeg) &&& 63) = 41 → (((xs i3.toNatClampNeg) &&& 63) = 42 → B_L_law_1516 L xs r1 r2 i3 k j μ K18 Q) ∧ (¬ ((xs i3.toNatClampNeg) &&& 63) = 42 → (((xs i3.toNatClampNeg) &&& 63) = 43 → B_L_law_1539 L xs r1 r2 i3 k j μ K18 Q) ∧ (¬ ((xs i3.toNatClampNeg) &&& 63) = 43 → (((xs i3.toNatClampNeg) &&& 63) = 44 → B_L_law_1578 L xs r1 r2 i3 k j μ K18 Q) ∧ (¬ ((xs i3.toNatClampNeg) &&& 63) = 44 → (((xs i3.toNatClampNeg) &&& 63) = 45 → B_L_law_1601 L xs r1 r2 i3 k j μ K18 Q) ∧ (¬ ((xs i3.toNatClampNeg) &&& 63) = 45 → (((xs i3.toNatClampNeg) &&& 63) = 46 → B_L_law_1624 L xs r1 r2 i3 k j μ K18 Q) ∧ (¬ ((xs i3.toNatClampNeg) &&& 63) = 46 → (((xs i3.toNatClampNeg) &&& 63) = 47 → B_L_law_1657 L xs r1 r2 i3 k j μ K18 Q) ∧ (¬ ((xs i3.toNatClampNeg) &&& 63) = 47 → (((xs i3.toNatClampNeg) &&& 63) = 48 → B_L_law_1690 L xs r1 r2 i3 k j μ K18 Q) ∧ (¬ ((xs i3.toNatClampNeg) &&& 63) = 48 → (((xs i3.toNatClampNeg) &&& 63) = 49 → B_L_law_1703 L xs r1 r2 i3 k j μ K18 Q) ∧ (¬ ((xs i3.toNatClampNeg) &&& 63) = 49 → (((xs i3.toNatClampNeg) &&& 63) = 50 → B_L_law_1716 L xs r1 r2 i3 k j μ K18 Q) ∧ (¬ ((xs i3.toNatClampNeg) &&& 63) = 50 → (((xs i3.toNatClampNeg) &&& 63) = 51 → B_L_law_1729 L xs r1 r2 i3 k j μ K18 Q) ∧ (¬ ((xs i3.toNatClampNeg) &&& 63) = 51 → (((xs i3.toNatClampNeg) &&& 63) = 52 → B_L_law_1742 L xs r1 r2 i3 k j μ K18 Q) ∧ (¬ ((xs i3.toNatClampNeg) &&& 63) = 52 → (((xs i3.toNatClampNeg) &&& 63) = 53 → B_L_law_1765 L xs r1 r2 i3 k j μ K18 Q) ∧ (¬ ((xs i3.toNatClampNeg) &&& 63) = 53 → (((xs i3.toNatClampNeg) &&& 63) = 54 → B_L_law_1778 L xs r1 r2 i3 k j μ K18 Q) ∧ (¬ ((xs i3.toNatClampNeg) &&& 63) = 54 → (((xs i3.toNatClampNeg) &&& 63) = 55 → B_L_law_1791 L xs r1 r2 i3 k j μ K18 Q) ∧ (¬ ((xs i3.toNatClampNeg) &&& 63) = 55 → B_L_law_1814 L xs r1 r2 i3 k j μ K18 Q)))))))))))))))))))))))))))))))))))))))))))))))))))))))))))
set_option maxHeartbeats 4000000 in
set_option maxRecDepth 100000 in
theorem tB_L_law_18 {x : GX} {b L : Nat} {xs : Nat → Int32} (f : Fx x cL_law RL 4 room_1) {r1 : Option Nat} {r2 : Option Nat} {i3 : Int32} {k j : Nat} {μ : Me} {Q : Int32 → Me → Prop} (hx : Lx x b L xs) {K18 : Int32 → Nat → Nat → Me → Prop} (hK18 : ∀ (a3 : Int32) (k j : Nat) (ν : Me), K18 a3 k j ν → G x 4 18 [(0, .ref b), (1, vr (gB x) r1), (2, vr (gB x) r2), (3, .int a3)] [] ν k j) (h : B_L_law_18 L xs r1 r2 i3 k j μ K18 Q) : G x 4 18 [(0, .ref b), (1, vr (gB x) r1), (2, vr (gB x) r2), (3, .int i3)] [] μ k j := by
  unfold B_L_law_18 at h
  refine g_iload_n f 3 dL_law_18 rfl rfl ?_
  refine g_aload_n f 0 dL_law_19 rfl rfl ?_
  refine g_sln f hx dL_law_20 ?_
  refine g_bipush f 6 dL_law_21 kb_6 ?_
  refine g_isub f dL_law_23 ?_
  refine g_ic_gt f 1820 dL_law_24 rfl h (fun h => ?_) (fun h => ?_)
  · refine g_iconst f 1 dL_law_1820 kc_1 ?_
    obtain ⟨⟨c13, c13b⟩, h⟩ := h
    exact g_lawret f hx c13 c13b rfl dL_law_1821 h
  · refine g_aload_n f 0 dL_law_27 rfl rfl ?_
    refine g_iload_n f 3 dL_law_28 rfl rfl ?_
    refine g_sld f hx dL_law_29 h (fun h => ?_)
    refine g_bipush f 63 dL_law_30 kb_63 ?_
    refine g_iand f dL_law_32 ?_
    rcases dec_or h with ⟨e14, h⟩ | ⟨e14, h⟩
    · refine g_tableIn f 272 dL_law_33 (by rw [e14] <;> decide) (by rw [e14] <;> decide) (by rw [e14] <;> rfl) rfl ?_
      exact h_sub [0, 1, 2, 3] rfl (tB_L_law_272 f hx hK18 h)
    · skip
      rcases dec_or h with ⟨e32, h⟩ | ⟨e32, h⟩
      · refine g_tableIn f 325 dL_law_33 (by rw [e32] <;> decide) (by rw [e32] <;> decide) (by rw [e32] <;> rfl) rfl ?_
        exact h_sub [0, 1, 2, 3] rfl (tB_L_law_325 f hx hK18 h)
      · skip
        rcases dec_or h with ⟨e50, h⟩ | ⟨e50, h⟩
        · refine g_tableIn f 384 dL_law_33 (by rw [e50] <;> decide) (by rw [e50] <;> decide) (by rw [e50] <;> rfl) rfl ?_
          exact h_sub [0, 1, 2, 3] rfl (tB_L_law_384 f hx hK18 h)
        · skip
          rcases dec_or h with ⟨e68, h⟩ | ⟨e68, h⟩
          · refine g_tableIn f 447 dL_law_33 (by rw [e68] <;> decide) (by rw [e68] <;> decide) (by rw [e68] <;> rfl) rfl ?_
            exact h_sub [0, 1, 2, 3] rfl (tB_L_law_447 f hx hK18 h)
          · skip
            rcases dec_or h with ⟨e86, h⟩ | ⟨e86, h⟩
            · refine g_tableIn f 470 dL_law_33 (by rw [e86] <;> decide) (by rw [e86] <;> decide) (by rw [e86] <;> rfl) rfl ?_
              exact h_sub [0, 1, 2, 3] rfl (tB_L_law_470 f hx hK18 h)
            · skip
              rcases dec_or h with ⟨e104, h⟩ | ⟨e104, h⟩
              · refine g_tableIn f 483 dL_law_33 (by rw [e104] <;> decide) (by rw [e104] <;> decide) (by rw [e104] <;> rfl) rfl ?_
                exact h_sub [0, 1, 2, 3] rfl (tB_L_law_483 f hx hK18 h)
              · skip
                rcases dec_or h with ⟨e122, h⟩ | ⟨e122, h⟩
                · refine g_tableIn f 506 dL_law_33 (by rw [e122] <;> decide) (by rw [e122] <;> decide) (by rw [e122] <;> rfl) rfl ?_
                  exact h_sub [0, 1, 2, 3] rfl (tB_L_law_506 f hx hK18 h)
                · skip
                  rcases dec_or h with ⟨e140, h⟩ | ⟨e140, h⟩
                  · refine g_tableIn f 529 dL_law_33 (by rw [e140] <;> decide) (by rw [e140] <;> decide) (by rw [e140] <;> rfl) rfl ?_
                    exact h_sub [0, 1, 2, 3] rfl (tB_L_law_529 f hx hK18 h)
                  · skip
                    rcases dec_or h with ⟨e158, h⟩ | ⟨e158, h⟩
                    · refine g_tableIn f 552 dL_law_33 (by rw [e158] <;> decide) (by rw [e158] <;> decide) (by rw [e158] <;> rfl) rfl ?_
                      exact h_sub [0, 1, 2, 3] rfl (tB_L_law_552 f hx hK18 h)
                    · skip
                      rcases dec_or h with ⟨e176, h⟩ | ⟨e176, h⟩
                      · refine g_tableIn f 585 dL_law_33 (by rw [e176] <;> decide) (by rw [e176] <;> decide) (by rw [e176] <;> rfl) rfl ?_
                        exact h_sub [0, 1, 2, 3] rfl (tB_L_law_585 f hx hK18 h)
                      · skip
                        rcases dec_or h with ⟨e194, h⟩ | ⟨e194, h⟩
                        · refine g_tableIn f 608 dL_law_33 (by rw [e194] <;> decide) (by rw [e194] <;> decide) (by rw [e194] <;> rfl) rfl ?_
                          exact h_sub [0, 1, 2, 3] rfl (tB_L_law_608 f hx hK18 h)
                        · skip
                          rcases dec_or h with ⟨e212, h⟩ | ⟨e212, h⟩
                          · refine g_tableIn f 631 dL_law_33 (by rw [e212] <;> decide) (by rw [e212] <;> decide) (by rw [e212] <;> rfl) rfl ?_
                            exact h_sub [0, 1, 2, 3] rfl (tB_L_law_631 f hx hK18 h)
                          · skip
                            rcases dec_or h with ⟨e230, h⟩ | ⟨e230, h⟩
                            · refine g_tableIn f 654 dL_law_33 (by rw [e230] <;> decide) (by rw [e230] <;> decide) (by rw [e230] <;> rfl) rfl ?_
                              exact h_sub [0, 1, 2, 3] rfl (tB_L_law_654 f hx hK18 h)
                            · skip
                              rcases dec_or h with ⟨e248, h⟩ | ⟨e248, h⟩
                              · refine g_tableIn f 677 dL_law_33 (by rw [e248] <;> decide) (by rw [e248] <;> decide) (by rw [e248] <;> rfl) rfl ?_
                                exact h_sub [0, 1, 2, 3] rfl (tB_L_law_677 f hx hK18 h)
                              · skip
                                rcases dec_or h with ⟨e266, h⟩ | ⟨e266, h⟩
                                · refine g_tableIn f 710 dL_law_33 (by rw [e266] <;> decide) (by rw [e266] <;> decide) (by rw [e266] <;> rfl) rfl ?_
                                  exact h_sub [0, 1, 2, 3] rfl (tB_L_law_710 f hx hK18 h)
                                · skip
                                  rcases dec_or h with ⟨e284, h⟩ | ⟨e284, h⟩
                                  · refine g_tableIn f 723 dL_law_33 (by rw [e284] <;> decide) (by rw [e284] <;> decide) (by rw [e284] <;> rfl) rfl ?_
                                    exact h_sub [0, 1, 2, 3] rfl (tB_L_law_723 f hx hK18 h)
                                  · skip
                                    rcases dec_or h with ⟨e302, h⟩ | ⟨e302, h⟩
                                    · refine g_tableIn f 756 dL_law_33 (by rw [e302] <;> decide) (by rw [e302] <;> decide) (by rw [e302] <;> rfl) rfl ?_
                                      exact h_sub [0, 1, 2, 3] rfl (tB_L_law_756 f hx hK18 h)
                                    · skip
                                      rcases dec_or h with ⟨e320, h⟩ | ⟨e320, h⟩
                                      · refine g_tableIn f 779 dL_law_33 (by rw [e320] <;> decide) (by rw [e320] <;> decide) (by rw [e320] <;> rfl) rfl ?_
                                        exact h_sub [0, 1, 2, 3] rfl (tB_L_law_779 f hx hK18 h)
                                      · skip
                                        rcases dec_or h with ⟨e338, h⟩ | ⟨e338, h⟩
                                        · refine g_tableIn f 812 dL_law_33 (by rw [e338] <;> decide) (by rw [e338] <;> decide) (by rw [e338] <;> rfl) rfl ?_
                                          exact h_sub [0, 1, 2, 3] rfl (tB_L_law_812 f hx hK18 h)
                                        · skip
                                          rcases dec_or h with ⟨e356, h⟩ | ⟨e356, h⟩
                                          · refine g_tableIn f 845 dL_law_33 (by rw [e356] <;> decide) (by rw [e356] <;> decide) (by rw [e356] <;> rfl) rfl ?_
                                            exact h_sub [0, 1, 2, 3] rfl (tB_L_law_845 f hx hK18 h)
                                          · skip
                                            rcases dec_or h with ⟨e374, h⟩ | ⟨e374, h⟩
                                            · refine g_tableIn f 868 dL_law_33 (by rw [e374] <;> decide) (by rw [e374] <;> decide) (by rw [e374] <;> rfl) rfl ?_
                                              exact h_sub [0, 1, 2, 3] rfl (tB_L_law_868 f hx hK18 h)
                                            · skip
                                              rcases dec_or h with ⟨e392, h⟩ | ⟨e392, h⟩
                                              · refine g_tableIn f 891 dL_law_33 (by rw [e392] <;> decide) (by rw [e392] <;> decide) (by rw [e392] <;> rfl) rfl ?_
                                                exact h_sub [0, 1, 2, 3] rfl (tB_L_law_891 f hx hK18 h)
                                              · skip
                                                rcases dec_or h with ⟨e410, h⟩ | ⟨e410, h⟩
                                                · refine g_tableIn f 914 dL_law_33 (by rw [e410] <;> decide) (by rw [e410] <;> decide) (by rw [e410] <;> rfl) rfl ?_
                                                  exact h_sub [0, 1, 2, 3] rfl (tB_L_law_914 f hx hK18 h)
                                                · skip
                                                  rcases dec_or h with ⟨e428, h⟩ | ⟨e428, h⟩
                                                  · refine g_tableIn f 953 dL_law_33 (by rw [e428] <;> decide) (by rw [e428] <;> decide) (by rw [e428] <;> rfl) rfl ?_
                                                    exact h_sub [0, 1, 2, 3] rfl (tB_L_law_953 f hx hK18 h)
                                                  · skip
                                                    rcases dec_or h with ⟨e446, h⟩ | ⟨e446, h⟩
                                                    · refine g_tableIn f 976 dL_law_33 (by rw [e446] <;> decide) (by rw [e446] <;> decide) (by rw [e446] <;> rfl) rfl ?_
                                                      exact h_sub [0, 1, 2, 3] rfl (tB_L_law_976 f hx hK18 h)
                                                    · skip
                                                      rcases dec_or h with ⟨e464, h⟩ | ⟨e464, h⟩
                                                      · refine g_tableIn f 999 dL_law_33 (by rw [e464] <;> decide) (by rw [e464] <;> decide) (by rw [e464] <;> rfl) rfl ?_
                                                        exact h_sub [0, 1, 2, 3] rfl (tB_L_law_999 f hx hK18 h)
                                                      · skip
                                                        rcases dec_or h with ⟨e482, h⟩ | ⟨e482, h⟩
                                                        · refine g_tableIn f 1012 dL_law_33 (by rw [e482] <;> decide) (by rw [e482] <;> decide) (by rw [e482] <;> rfl) rfl ?_
                                                          exact h_sub [0, 1, 2, 3] rfl (tB_L_law_1012 f hx hK18 h)
                                                        · skip
                                                          rcases dec_or h with ⟨e500, h⟩ | ⟨e500, h⟩
                                                          · refine g_tableIn f 1035 dL_law_33 (by rw [e500] <;> decide) (by rw [e500] <;> decide) (by rw [e500] <;> rfl) rfl ?_
                                                            exact h_sub [0, 1, 2, 3] rfl (tB_L_law_1035 f hx hK18 h)
                                                          · skip
                                                            rcases dec_or h with ⟨e518, h⟩ | ⟨e518, h⟩
                                                            · refine g_tableIn f 1048 dL_law_33 (by rw [e518] <;> decide) (by rw [e518] <;> decide) (by rw [e518] <;> rfl) rfl ?_
                                                              exact h_sub [0, 1, 2, 3] rfl (tB_L_law_1048 f hx hK18 h)
                                                            · skip
                                                              rcases dec_or h with ⟨e536, h⟩ | ⟨e536, h⟩
                                                              · refine g_tableIn f 1081 dL_law_33 (by rw [e536] <;> decide) (by rw [e536] <;> decide) (by rw [e536] <;> rfl) rfl ?_
                                                                exact h_sub [0, 1, 2, 3] rfl (tB_L_law_1081 f hx hK18 h)
                                                              · skip
                                                                rcases dec_or h with ⟨e554, h⟩ | ⟨e554, h⟩
                                                                · refine g_tableIn f 1114 dL_law_33 (by rw [e554] <;> decide) (by rw [e554] <;> decide) (by rw [e554] <;> rfl) rfl ?_
                                                                  exact h_sub [0, 1, 2, 3] rfl (tB_L_law_1114 f hx hK18 h)
                                                                · skip
                                                                  rcases dec_or h with ⟨e572, h⟩ | ⟨e572, h⟩
                                                                  · refine g_tableIn f 1147 dL_law_33 (by rw [e572] <;> decide) (by rw [e572] <;> decide) (by rw [e572] <;> rfl) rfl ?_
                                                                    exact h_sub [0, 1, 2, 3] rfl (tB_L_law_1147 f hx hK18 h)
                                                                  · skip
                                                                    rcases dec_or h with ⟨e590, h⟩ | ⟨e590, h⟩
                                                                    · refine g_tableIn f 1160 dL_law_33 (by rw [e590] <;> decide) (by rw [e590] <;> decide) (by rw [e590] <;> rfl) rfl ?_
                                                                      exact h_sub [0, 1, 2, 3] rfl (tB_L_law_1160 f hx hK18 h)
                                                                    · skip
                                                                      rcases dec_or h with ⟨e608, h⟩ | ⟨e608, h⟩
                                                                      · refine g_tableIn f 1199 dL_law_33 (by rw [e608] <;> decide) (by rw [e608] <;> decide) (by rw [e608] <;> rfl) rfl ?_
                                                                        exact h_sub [0, 1, 2, 3] rfl (tB_L_law_1199 f hx hK18 h)
                                                                      · skip
                                                                        rcases dec_or h with ⟨e626, h⟩ | ⟨e626, h⟩
                                                                        · refine g_tableIn f 1248 dL_law_33 (by rw [e626] <;> decide) (by rw [e626] <;> decide) (by rw [e626] <;> rfl) rfl ?_
                                                                          exact h_sub [0, 1, 2, 3] rfl (tB_L_law_1248 f hx hK18 h)
                                                                        · skip
                                                                          rcases dec_or h with ⟨e644, h⟩ | ⟨e644, h⟩
                                                                          · refine g_tableIn f 1271 dL_law_33 (by rw [e644] <;> decide) (by rw [e644] <;> decide) (by rw [e644] <;> rfl) rfl ?_
                                                                            exact h_sub [0, 1, 2, 3] rfl (tB_L_law_1271 f hx hK18 h)
                                                                          · skip
                                                                            rcases dec_or h with ⟨e662, h⟩ | ⟨e662, h⟩
                                                                            · refine g_tableIn f 1294 dL_law_33 (by rw [e662] <;> decide) (by rw [e662] <;> decide) (by rw [e662] <;> rfl) rfl ?_
                                                                              exact h_sub [0, 1, 2, 3] rfl (tB_L_law_1294 f hx hK18 h)
                                                                            · skip
                                                                              rcases dec_or h with ⟨e680, h⟩ | ⟨e680, h⟩
                                                                              · refine g_tableIn f 1307 dL_law_33 (by rw [e680] <;> decide) (by rw [e680] <;> decide) (by rw [e680] <;> rfl) rfl ?_
                                                                                exact h_sub [0, 1, 2, 3] rfl (tB_L_law_1307 f hx hK18 h)
                                                                              · skip
                                                                                rcases dec_or h with ⟨e698, h⟩ | ⟨e698, h⟩
                                                                                · refine g_tableIn f 1330 dL_law_33 (by rw [e698] <;> decide) (by rw [e698] <;> decide) (by rw [e698] <;> rfl) rfl ?_
                                                                                  exact h_sub [0, 1, 2, 3] rfl (tB_L_law_1330 f hx hK18 h)
                                                                                · skip
                                                                                  rcases dec_or h with ⟨e716, h⟩ | ⟨e716, h⟩
                                                                                  · refine g_tableIn f 1379 dL_law_33 (by rw [e716] <;> decide) (by rw [e716] <;> decide) (by rw [e716] <;> rfl) rfl ?_
                                                                                    exact h_sub [0, 1, 2, 3] rfl (tB_L_law_1379 f hx hK18 h)
                                                                                  · skip
                                                                                    rcases dec_or h with ⟨e734, h⟩ | ⟨e734, h⟩
                                                                                    · refine g_tableIn f 1428 dL_law_33 (by rw [e734] <;> decide) (by rw [e734] <;> decide) (by rw [e734] <;> rfl) rfl ?_
                                                                                      exact h_sub [0, 1, 2, 3] rfl (tB_L_law_1428 f hx hK18 h)
                                                                                    · skip
                                                                                      rcases dec_or h with ⟨e752, h⟩ | ⟨e752, h⟩
                                                                                      · refine g_tableIn f 1477 dL_law_33 (by rw [e752] <;> decide) (by rw [e752] <;> decide) (by rw [e752] <;> rfl) rfl ?_
                                                                                        exact h_sub [0, 1, 2, 3] rfl (tB_L_law_1477 f hx hK18 h)
                                                                                      · skip
                                                                                        rcases dec_or h with ⟨e770, h⟩ | ⟨e770, h⟩
                                                                                        · refine g_tableIn f 1516 dL_law_33 (by rw [e770] <;> decide) (by rw [e770] <;> decide) (by rw [e770] <;> rfl) rfl ?_
                                                                                          exact h_sub [0, 1, 2, 3] rfl (tB_L_law_1516 f hx hK18 h)
                                                                                        · skip
                                                                                          rcases dec_or h with ⟨e788, h⟩ | ⟨e788, h⟩
                                                                                          · refine g_tableIn f 1539 dL_law_33 (by rw [e788] <;> decide) (by rw [e788] <;> decide) (by rw [e788] <;> rfl) rfl ?_
                                                                                            exact h_sub [0, 1, 2, 3] rfl (tB_L_law_1539 f hx hK18 h)
                                                                                          · skip
                                                                                            rcases dec_or h with ⟨e806, h⟩ | ⟨e806, h⟩
                                                                                            · refine g_tableIn f 1578 dL_law_33 (by rw [e806] <;> decide) (by rw [e806] <;> decide) (by rw [e806] <;> rfl) rfl ?_
                                                                                              exact h_sub [0, 1, 2, 3] rfl (tB_L_law_1578 f hx hK18 h)
                                                                                            · skip
                                                                                              rcases dec_or h with ⟨e824, h⟩ | ⟨e824, h⟩
                                                                                              · refine g_tableIn f 1601 dL_law_33 (by rw [e824] <;> decide) (by rw [e824] <;> decide) (by rw [e824] <;> rfl) rfl ?_
                                                                                                exact h_sub [0, 1, 2, 3] rfl (tB_L_law_1601 f hx hK18 h)
                                                                                              · skip
                                                                                                rcases dec_or h with ⟨e842, h⟩ | ⟨e842, h⟩
                                                                                                · refine g_tableIn f 1624 dL_law_33 (by rw [e842] <;> decide) (by rw [e842] <;> decide) (by rw [e842] <;> rfl) rfl ?_
                                                                                                  exact h_sub [0, 1, 2, 3] rfl (tB_L_law_1624 f hx hK18 h)
                                                                                                · skip
                                                                                                  rcases dec_or h with ⟨e860, h⟩ | ⟨e860, h⟩
                                                                                                  · refine g_tableIn f 1657 dL_law_33 (by rw [e860] <;> decide) (by rw [e860] <;> decide) (by rw [e860] <;> rfl) rfl ?_
                                                                                                    exact h_sub [0, 1, 2, 3] rfl (tB_L_law_1657 f hx hK18 h)
                                                                                                  · skip
                                                                                                    rcases dec_or h with ⟨e878, h⟩ | ⟨e878, h⟩
                                                                                                    · refine g_tableIn f 1690 dL_law_33 (by rw [e878] <;> decide) (by rw [e878] <;> decide) (by rw [e878] <;> rfl) rfl ?_
                                                                                                      exact h_sub [0, 1, 2, 3] rfl (tB_L_law_1690 f hx hK18 h)
                                                                                                    · skip
                                                                                                      rcases dec_or h with ⟨e896, h⟩ | ⟨e896, h⟩
                                                                                                      · refine g_tableIn f 1703 dL_law_33 (by rw [e896] <;> decide) (by rw [e896] <;> decide) (by rw [e896] <;> rfl) rfl ?_
                                                                                                        exact h_sub [0, 1, 2, 3] rfl (tB_L_law_1703 f hx hK18 h)
                                                                                                      · skip
                                                                                                        rcases dec_or h with ⟨e914, h⟩ | ⟨e914, h⟩
                                                                                                        · refine g_tableIn f 1716 dL_law_33 (by rw [e914] <;> decide) (by rw [e914] <;> decide) (by rw [e914] <;> rfl) rfl ?_
                                                                                                          exact h_sub [0, 1, 2, 3] rfl (tB_L_law_1716 f hx hK18 h)
                                                                                                        · skip
                                                                                                          rcases dec_or h with ⟨e932, h⟩ | ⟨e932, h⟩
                                                                                                          · refine g_tableIn f 1729 dL_law_33 (by rw [e932] <;> decide) (by rw [e932] <;> decide) (by rw [e932] <;> rfl) rfl ?_
                                                                                                            exact h_sub [0, 1, 2, 3] rfl (tB_L_law_1729 f hx hK18 h)
                                                                                                          · skip
                                                                                                            rcases dec_or h with ⟨e950, h⟩ | ⟨e950, h⟩
                                                                                                            · refine g_tableIn f 1742 dL_law_33 (by rw [e950] <;> decide) (by rw [e950] <;> decide) (by rw [e950] <;> rfl) rfl ?_
                                                                                                              exact h_sub [0, 1, 2, 3] rfl (tB_L_law_1742 f hx hK18 h)
                                                                                                            · skip
                                                                                                              rcases dec_or h with ⟨e968, h⟩ | ⟨e968, h⟩
                                                                                                              · refine g_tableIn f 1765 dL_law_33 (by rw [e968] <;> decide) (by rw [e968] <;> decide) (by rw [e968] <;> rfl) rfl ?_
                                                                                                                exact h_sub [0, 1, 2, 3] rfl (tB_L_law_1765 f hx hK18 h)
                                                                                                              · skip
                                                                                                                rcases dec_or h with ⟨e986, h⟩ | ⟨e986, h⟩
                                                                                                                · refine g_tableIn f 1778 dL_law_33 (by rw [e986] <;> decide) (by rw [e986] <;> decide) (by rw [e986] <;> rfl) rfl ?_
                                                                                                                  exact h_sub [0, 1, 2, 3] rfl (tB_L_law_1778 f hx hK18 h)
                                                                                                                · skip
                                                                                                                  rcases dec_or h with ⟨e1004, h⟩ | ⟨e1004, h⟩
                                                                                                                  · refine g_tableIn f 1791 dL_law_33 (by rw [e1004] <;> decide) (by rw [e1004] <;> decide) (by rw [e1004] <;> rfl) rfl ?_
                                                                                                                    exact h_sub [0, 1, 2, 3] rfl (tB_L_law_1791 f hx hK18 h)
                                                                                                                  · skip
                                                                                                                    have e14 := lv_neT (a := 0) e14 (by decide)
                                                                                                                    have e32 := lv_neT (a := 1) e32 (by decide)
                                                                                                                    have e50 := lv_neT (a := 2) e50 (by decide)
                                                                                                                    have e68 := lv_neT (a := 3) e68 (by decide)
                                                                                                                    have e86 := lv_neT (a := 4) e86 (by decide)
                                                                                                                    have e104 := lv_neT (a := 5) e104 (by decide)
                                                                                                                    have e122 := lv_neT (a := 6) e122 (by decide)
                                                                                                                    have e140 := lv_neT (a := 7) e140 (by decide)
                                                                                                                    have e158 := lv_neT (a := 8) e158 (by decide)
                                                                                                                    have e176 := lv_neT (a := 9) e176 (by decide)
                                                                                                                    have e194 := lv_neT (a := 10) e194 (by decide)
                                                                                                                    have e212 := lv_neT (a := 11) e212 (by decide)
                                                                                                                    have e230 := lv_neT (a := 12) e230 (by decide)
                                                                                                                    have e248 := lv_neT (a := 13) e248 (by decide)
                                                                                                                    have e266 := lv_neT (a := 14) e266 (by decide)
                                                                                                                    have e284 := lv_neT (a := 15) e284 (by decide)
                                                                                                                    have e302 := lv_neT (a := 16) e302 (by decide)
                                                                                                                    have e320 := lv_neT (a := 17) e320 (by decide)
                                                                                                                    have e338 := lv_neT (a := 18) e338 (by decide)
                                                                                                                    have e356 := lv_neT (a := 19) e356 (by decide)
                                                                                                                    have e374 := lv_neT (a := 20) e374 (by decide)
                                                                                                                    have e392 := lv_neT (a := 21) e392 (by decide)
                                                                                                                    have e410 := lv_neT (a := 22) e410 (by decide)
                                                                                                                    have e428 := lv_neT (a := 23) e428 (by decide)
                                                                                                                    have e446 := lv_neT (a := 24) e446 (by decide)
                                                                                                                    have e464 := lv_neT (a := 25) e464 (by decide)
                                                                                                                    have e482 := lv_neT (a := 26) e482 (by decide)
                                                                                                                    have e500 := lv_neT (a := 27) e500 (by decide)
                                                                                                                    have e518 := lv_neT (a := 28) e518 (by decide)
                                                                                                                    have e536 := lv_neT (a := 29) e536 (by decide)
                                                                                                                    have e554 := lv_neT (a := 30) e554 (by decide)
                                                                                                                    have e572 := lv_neT (a := 31) e572 (by decide)
                                                                                                                    have e590 := lv_neT (a := 32) e590 (by decide)
                                                                                                                    have e608 := lv_neT (a := 33) e608 (by decide)
                                                                                                                    have e626 := lv_neT (a := 34) e626 (by decide)
                                                                                                                    have e644 := lv_neT (a := 35) e644 (by decide)
                                                                                                                    have e662 := lv_neT (a := 36) e662 (by decide)
                                                                                                                    have e680 := lv_neT (a := 37) e680 (by decide)
                                                                                                                    have e698 := lv_neT (a := 38) e698 (by decide)
                                                                                                                    have e716 := lv_neT (a := 39) e716 (by decide)
                                                                                                                    have e734 := lv_neT (a := 40) e734 (by decide)
                                                                                                                    have e752 := lv_neT (a := 41) e752 (by decide)
                                                                                                                    have e770 := lv_neT (a := 42) e770 (by decide)
                                                                                                                    have e788 := lv_neT (a := 43) e788 (by decide)
                                                                                                                    have e806 := lv_neT (a := 44) e806 (by decide)
                                                                                                                    have e824 := lv_neT (a := 45) e824 (by decide)
                                                                                                                    have e842 := lv_neT (a := 46) e842 (by decide)
                                                                                                                    have e860 := lv_neT (a := 47) e860 (by decide)
                                                                                                                    have e878 := lv_neT (a := 48) e878 (by decide)
                                                                                                                    have e896 := lv_neT (a := 49) e896 (by decide)
                                                                                                                    have e914 := lv_neT (a := 50) e914 (by decide)
                                                                                                                    have e932 := lv_neT (a := 51) e932 (by decide)
                                                                                                                    have e950 := lv_neT (a := 52) e950 (by decide)
                                                                                                                    have e968 := lv_neT (a := 53) e968 (by decide)
                                                                                                                    have e986 := lv_neT (a := 54) e986 (by decide)
                                                                                                                    have e1004 := lv_neT (a := 55) e1004 (by decide)
                                                                                                                    refine g_tableOut f 1814 dL_law_33 (by omega) rfl ?_
                                                                                                                    exact h_sub [0, 1, 2, 3] rfl (tB_L_law_1814 f hx hK18 h)
def L_L_law_18 (L : Nat) (xs : Nat → Int32) (r1 : Option Nat) (r2 : Option Nat) (i3 : Int32) (k j : Nat) (μ : Me) (Q : Int32 → Me → Prop) : Prop := ∃ I : Int32 → Nat → Nat → Me → Nat → Prop, (∃ n, I i3 k j μ n) ∧ ∀ (i3 : Int32) (k j : Nat) (μ : Me) (n : Nat), I i3 k j μ n → B_L_law_18 L xs r1 r2 i3 k j μ (fun a3 k j ν => ∃ n', n' < n ∧ I a3 k j ν n') Q
set_option maxHeartbeats 4000000 in
set_option maxRecDepth 100000 in
theorem tL_L_law_18 {x : GX} {b L : Nat} {xs : Nat → Int32} (f : Fx x cL_law RL 4 room_1) {r1 : Option Nat} {r2 : Option Nat} {i3 : Int32} {k j : Nat} {μ : Me} {Q : Int32 → Me → Prop} (hx : Lx x b L xs) (h : L_L_law_18 L xs r1 r2 i3 k j μ Q) : G x 4 18 [(0, .ref b), (1, vr (gB x) r1), (2, vr (gB x) r2), (3, .int i3)] [] μ k j := by
  obtain ⟨I, ⟨n, hI⟩, hs⟩ := h
  induction n using Nat.strongRecOn generalizing i3 k j μ with
  | ind n ih => exact tB_L_law_18 f hx (fun a3 k j ν hk => by obtain ⟨n2, hn, hI2⟩ := hk; exact ih n2 hn hI2) (hs _ _ _ _ _ hI)
def S_L_law (L : Nat) (xs : Nat → Int32) (μ : Me) (Q : Int32 → Me → Prop) : Prop := ∀ μ1, μ1 = mnw μ 10 0 → S_X10_init (mnn μ) μ1 (fun μ4 => ∀ μ7, μ7 = mnw μ4 11 0 → S_X11_init (mnn μ4) μ7 (fun μ10 => L_L_law_18 L xs (some (mnn μ)) (some (mnn μ4)) 0 328 24677 μ10 Q))
set_option maxHeartbeats 4000000 in
set_option maxRecDepth 100000 in
theorem t_L_law {x : GX} {b L : Nat} {xs : Nat → Int32} (f : Fx x cL_law RL 4 room_1) {μ : Me} {Q : Int32 → Me → Prop} (hx : Lx x b L xs) (h : S_L_law L xs μ Q) : G x 4 0 [(0, .ref b)] [] μ 0 0 := by
  unfold S_L_law at h
  refine g_new f nk_L_7 dL_law_0 (Nat.le_of_ble_eq_true rfl) (Nat.le_of_ble_eq_true rfl) h (fun h v2 x3 => ?_)
  refine g_dup f dL_law_3 rfl ?_
  refine g_callI f mk_L_9 (c_X10_init h) dL_law_4 rfl rfl (Nat.le_of_ble_eq_true rfl) (rm_okL (by decide) (by decide)) ⟨Nat.le_of_ble_eq_true rfl, Nat.le_of_ble_eq_true rfl⟩ (kV fun μ4 x5 h => ?_)
  refine h_astore_n (B := gB x) (r := some _) f dL_law_7 rfl (by decide) ?_
  refine g_new f nk_L_10 dL_law_8 (Nat.le_of_ble_eq_true rfl) (Nat.le_of_ble_eq_true rfl) h (fun h v8 x9 => ?_)
  refine g_dup f dL_law_11 rfl ?_
  refine g_callI f mk_L_12 (c_X11_init h) dL_law_12 rfl rfl (Nat.le_of_ble_eq_true rfl) (rm_okL (by decide) (by decide)) ⟨Nat.le_of_ble_eq_true rfl, Nat.le_of_ble_eq_true rfl⟩ (kV fun μ10 x11 h => ?_)
  refine h_astore_n (B := gB x) (r := some _) f dL_law_15 rfl (by decide) ?_
  refine g_iconst f 0 dL_law_16 kc_0 ?_
  refine h_istore_n f dL_law_17 rfl (by decide) ?_
  exact h_sub [3, 2, 1, 0] rfl (tL_L_law_18 f hx h)
